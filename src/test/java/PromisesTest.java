public final class PromisesTest {
    public static void main(String[] args) {
        Checks checks = new Checks();
        checks.due("NONE", GraveRails.NONE, -1);
        checks.close("PromisesTest");
    }
}
