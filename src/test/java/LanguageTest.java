import java.io.IOException;
import java.nio.file.Files;
import java.nio.file.Path;
import java.util.ArrayList;
import java.util.List;
import java.util.TreeSet;
import java.util.Set;
import java.util.regex.Matcher;
import java.util.regex.Pattern;

/**
 * What of ../shared/LANGUAGE.md can be seen by reading the source or the class: a guard against slips,
 * not a proof. And what a run takes of the room.
 */
public final class LanguageTest {
    private static final Checks checks = new Checks();

    public static void main(String[] args) throws IOException {
        String source = Files.readString(Path.of("src/main/java/GraveRails.java"));
        words(bare(source));
        face();
        methods(source);
        room();
        checks.close("LanguageTest");
    }

    /** Without comments, texts and signs. */
    private static String bare(String source) {
        return source.replaceAll("(?s)/\\*.*?\\*/", " ").replaceAll("//[^\n]*", " ")
                .replaceAll("\"(\\\\.|[^\"\\\\])*\"", "\"\"").replaceAll("'(\\\\.|[^'\\\\])+'", "' '");
    }

    private static void words(String code) {
        String[] banned = {"\\b(throw|throws|try|catch|synchronized|assert|volatile|native|yield|var)\\b", "->", "::",
            "\\w+Exact\\b", "\\b(System\\.(?!arraycopy)|Thread|Random|Object|HashMap|Map|Set|Stream)\\b",
            "\\b(equals|hashCode|toString)\\s*\\(", "^package ", "@Override", "\\binstanceof\\b.*&&",
            // an array's element that is an object is taken out and looked at against null before its use
            "\\]\\s*\\."};
        for (String each : banned) {
            Matcher m = Pattern.compile(each, Pattern.MULTILINE).matcher(code);
            checks.due("not in the language: " + each + (m.find() ? " '" + m.group() + "'" : ""), m.reset().find(), false);
        }
        Matcher imports = Pattern.compile("import ([\\w.*]+);").matcher(code);
        while (imports.find()) {
            checks.due("import " + imports.group(1), imports.group(1).equals("java.util.Arrays"), true);
        }
        checks.due("nested classes are private static final",
                Pattern.compile("(?<!private static final )(?<!public final )\\bclass \\w+").matcher(code).find(), false);
    }

    private static void face() {
        Set<String> face = new TreeSet<>();
        Set<String> hidden = new TreeSet<>();
        for (java.lang.reflect.Method m : GraveRails.class.getDeclaredMethods()) {
            boolean open = java.lang.reflect.Modifier.isPublic(m.getModifiers());
            (open ? face : hidden).add(m.getName());
            checks.due(m + " is public or private", open || java.lang.reflect.Modifier.isPrivate(m.getModifiers()), true);
        }
        Set<String> due = new TreeSet<>(List.of("feed end yard rule force grave stone at root year dig pay frost undo ahead fall "
                .concat("abreast begin dug sight unpaid look war order seed drawn count image back").split(" ")));
        checks.due("the face " + face, face.equals(due), true);
        int fields = 0;
        for (Class<?> each : GraveRails.class.getDeclaredClasses()) {
            for (java.lang.reflect.Method m : each.getDeclaredMethods()) {
                hidden.add(m.getName());
            }
            for (java.lang.reflect.Field f : each.getDeclaredFields()) {
                checks.due("no static state: " + f, java.lang.reflect.Modifier.isStatic(f.getModifiers()), false);
            }
            checks.due("fields of " + each, each.getDeclaredFields().length <= 20, true);
        }
        for (java.lang.reflect.Field f : GraveRails.class.getDeclaredFields()) {
            int bits = f.getModifiers();
            boolean constant = java.lang.reflect.Modifier.isStatic(bits) && java.lang.reflect.Modifier.isFinal(bits);
            fields += constant ? 0 : 1;
            checks.due(f + " is private", f.getName().equals("NONE") || java.lang.reflect.Modifier.isPrivate(bits), true);
        }
        checks.due("fields", fields <= 20, true);
        checks.due("classes", GraveRails.class.getDeclaredClasses().length + 1 <= 12, true);
        hidden.retainAll(face);
        checks.due("hidden methods with a name of the face " + hidden, hidden.isEmpty(), true);
    }

    private static void methods(String source) {
        int open = -1;
        String[] lines = source.split("\n");
        for (int i = 0; i < lines.length; i++) {
            if (lines[i].matches("( {4}| {8})[^ /*@}].*\\) \\{")) {
                open = i;
            } else if (open >= 0 && lines[i].matches("( {4}| {8})}")) {
                checks.due("lines of " + lines[open].trim(), i - open < 60, true);
                open = -1;
            }
            checks.due("line " + (i + 1) + " is ASCII", lines[i].matches("\\p{ASCII}*"), true);
        }
    }

    /** 512 of the dearest calls make nothing; an object takes a small share of the room. */
    private static void room() {
        com.sun.management.ThreadMXBean threads =
                (com.sun.management.ThreadMXBean) java.lang.management.ManagementFactory.getThreadMXBean();
        long id = Thread.currentThread().getId();
        List<GraveRails> kept = new ArrayList<>();
        kept.add(new GraveRails());
        long before = threads.getThreadAllocatedBytes(id);
        GraveRails x = new GraveRails();
        long made = threads.getThreadAllocatedBytes(id) - before;
        checks.due("an object's bytes " + made, made < 200_000, true);
        Checks.tellYard(x, "yard 4 20;grave 0 9 plain;grave 1 9 unpaid;grave 2 9 child;grave 3 4 stands;grave 3 5 plain;flood 4");
        Checks.tellRule(x, "go 1 + unpaid + child if [not cell > 10 or flood = 1] and behind < 3;go 2");
        x.force(0);
        calls(x);
        before = threads.getThreadAllocatedBytes(id);
        for (int i = 0; i < 30; i++) {
            calls(x);
        }
        made = threads.getThreadAllocatedBytes(id) - before;
        checks.due("bytes made by calls " + made, made < 10_000, true);
    }

    private static void calls(GraveRails x) {
        x.begin(0, 0);
        x.sight(-1, 0, 0);
        x.sight(0, 8, 1);
        x.unpaid(0);
        x.look(7, 1);
        x.drawn(10, 60, 20, 0);
        x.fall(3);
        x.abreast(0, 3);
        x.order(3);
        x.war(50);
        x.dug(0, 0, 3, 0);
        x.year();
        x.frost(0);
        x.undo();
        x.undo();
        x.image(1);
        x.back(1);
        x.feed(0x676f2039, 0, 0, 0, 0);
        x.end(4);
        x.rule();
    }
}
