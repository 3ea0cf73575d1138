/** What the tests share: counting answers that are due, and telling texts to an object by its TAPE. */
final class Checks {
    private int right;
    private int wrong;

    void due(String call, long got, long want) {
        if (got == want) {
            right++;
            return;
        }
        wrong++;
        if (wrong <= 40) {
            System.out.println(call + " answered " + got + ", due is " + want);
        }
    }

    void due(String call, boolean got, boolean want) {
        due(call, got ? 1 : 0, want ? 1 : 0);
    }

    boolean allRight() {
        return wrong == 0;
    }

    /** To be called last: ends the program with 1 if an answer was wrong, or none was asked for. */
    void close(String name) {
        System.out.println(name + ": " + right + " answers as due, " + wrong + " not");
        if (wrong > 0 || right == 0) {
            System.exit(1);
        }
    }

    static void type(GraveRails x, String text) {
        for (int from = 0; from < text.length(); from += 20) {
            int[] n = new int[5];
            for (int i = 0; i < 20; i++) {
                int at = from + i;
                int sign = at < text.length() ? text.charAt(at) & 255 : 0;
                n[i / 4] |= sign << (24 - 8 * (i % 4));
            }
            x.feed(n[0], n[1], n[2], n[3], n[4]);
        }
        x.end(text.length());
    }

    static int tellYard(GraveRails x, String text) {
        type(x, text);
        return x.yard();
    }

    static int tellRule(GraveRails x, String text) {
        type(x, text);
        return x.rule();
    }

    static GraveRails withYard(String text) {
        GraveRails x = new GraveRails();
        tellYard(x, text);
        return x;
    }
}
