import java.util.Random;

/** Texts of YARDS and RULES as they come: right ones for the most part, some of them spoiled. */
final class Texts {
    private static final String[] KINDS = {"plain", "child", "unpaid", "stands"};
    private static final String[] WORDS = {"grave", "lane", "cell", "year", "age", "child", "unpaid", "pair",
        "ahead", "behind", "flood", "fallen"};
    private static final String[] SIGNS = {"<", "<=", "=", ">=", ">"};
    private static final String[] STRAY = {";", " ", "0", "7", "123456", "00003", "20", "99", "100", "yard 1 2", "go", "if",
        "not", "not not", "[", "]", "and", "or", "+", "-", "*", "/", "%", "<", "< =", "=<", ">=", "=", "plain", "child",
        "grave 0 0 plain", "pair 0 1", "root 0 0 1", "heavy 0", "flood 0", "flooded", "A", "\t", "\0", "\377", ",", "yea",
        "stands", "fallen", ";;", "go 1;", "g", "o", "{", "`", "/", ":", "@"};

    private final Random random;

    Texts(Random random) {
        this.random = random;
    }

    private int upTo(int n) {
        return random.nextInt(n + 1);
    }

    private boolean in(int n) {
        return random.nextInt(n) == 0;
    }

    private String blank() {
        return in(12) ? " ".repeat(upTo(3)) : "";
    }

    private String number(int n) {
        String s = in(40) ? "000" + n : Integer.toString(n);
        return " " + blank() + (s.length() > 5 && !in(20) ? Integer.toString(n) : s) + blank();
    }

    String yard() {
        int lanes = 1 + upTo(3);
        int cells = in(8) ? 20 : 2 + upTo(8);
        StringBuilder s = new StringBuilder();
        s.append(blank()).append("yard").append(number(lanes)).append(number(cells));
        boolean[] taken = new boolean[lanes * cells];
        boolean[] rooted = new boolean[lanes * cells];
        boolean[] paired = new boolean[10];
        int graves = 0;
        int roots = 0;
        int floods = 0;
        int clauses = in(20) ? 38 + upTo(4) : upTo(16);
        int most = in(2) ? 10 : 6;
        for (int i = 0; i < clauses; i++) {
            int lane = upTo(lanes - 1);
            int cell = upTo(cells - 1);
            int place = lane * cells + cell;
            boolean reckless = in(60);
            String clause = null;
            switch (random.nextInt(10)) {
                case 0: case 1: case 2: case 3: case 4:
                    if (graves < most && !taken[place] || reckless) {
                        taken[place] = true;
                        graves = Math.min(10, graves + 1);
                        clause = "grave" + number(lane) + number(cell) + " " + KINDS[in(4) ? upTo(3) : in(2) ? 2 : 0];
                    }
                    break;
                case 5: {
                    int one = upTo(Math.max(0, graves - 1));
                    int other = upTo(Math.max(0, graves - 1));
                    if (graves > 1 && one != other && !paired[one] && !paired[other] || reckless) {
                        paired[one] = true;
                        paired[other] = true;
                        clause = "pair" + number(one) + number(other);
                    }
                    break;
                }
                case 6: case 7:
                    if (roots < 6 && !rooted[place] || reckless) {
                        rooted[place] = true;
                        roots++;
                        clause = "root" + number(lane) + number(cell) + number(1 + upTo(in(3) ? 8 : 2));
                    }
                    break;
                case 8:
                    if (graves > 0 || reckless) {
                        clause = "heavy" + number(upTo(Math.max(0, graves - 1)));
                    }
                    break;
                default:
                    if (floods < 6 || reckless) {
                        floods++;
                        clause = "flood" + number(in(3) ? upTo(99) : floods * 3 - upTo(2));
                    }
            }
            if (clause == null && graves > 0) {
                clause = "heavy " + upTo(graves - 1);
            }
            if (clause != null) {
                s.append(blank()).append(";").append(blank()).append(clause);
            }
        }
        return spoiled(s.append(blank()).toString());
    }

    String rule() {
        StringBuilder s = new StringBuilder();
        int kind = random.nextInt(24);
        if (kind == 0) {
            s.append("go ").append(String.join("+", java.util.Collections.nCopies(57 + upTo(6), "1")));
            s.append(in(2) ? " if 1<2" : "");
        } else if (kind == 1) {
            int deep = 8 + upTo(4);
            String open = in(2) ? "[" : in(2) ? "not " : "not [";
            s.append("go 1 if ").append(open.repeat(open.equals("not [") ? deep / 2 : deep)).append(fact());
            s.append("]".repeat(open.equals("[") ? deep : open.equals("not [") ? deep / 2 : 0));
        } else if (kind == 2) {
            s.append("go 1").append(";go 2".repeat(10 + upTo(3)));
        } else {
            int clauses = 1 + upTo(in(4) ? 5 : 2);
            for (int i = 0; i < clauses; i++) {
                s.append(i > 0 ? ";" + blank() : blank()).append("go ").append(sum(in(3) ? 3 : 1));
                s.append(i + 1 < clauses || in(4) ? " if " + test(2) : "");
            }
        }
        return spoiled(s.append(blank()).toString());
    }

    private String sum(int most) {
        StringBuilder s = new StringBuilder(value());
        for (int i = upTo(most); i > 0; i--) {
            s.append(blank()).append("+-*/%".charAt(upTo(4))).append(blank()).append(value());
        }
        return s.toString();
    }

    private String value() {
        if (in(2)) {
            return WORDS[upTo(WORDS.length - 1)];
        }
        return Integer.toString(in(30) ? 99999 : in(4) ? upTo(20) : upTo(3));
    }

    private String fact() {
        return sum(in(3) ? 2 : 0) + blank() + SIGNS[upTo(4)] + blank() + sum(in(4) ? 1 : 0);
    }

    private String test(int deep) {
        StringBuilder s = new StringBuilder();
        for (int i = in(3) ? upTo(3) : 0; i >= 0; i--) {
            if (in(5)) {
                s.append("not ");
            }
            s.append(deep > 0 && in(4) ? "[" + blank() + test(deep - 1) + "]" : fact());
            s.append(i > 0 ? (in(2) ? " and " : " or ") : "");
        }
        return s.toString();
    }

    private String spoiled(String text) {
        StringBuilder s = new StringBuilder(text);
        for (int i = in(5) ? 1 + upTo(1) : 0; i > 0; i--) {
            int at = upTo(s.length());
            int to = Math.min(s.length(), at + upTo(3));
            switch (random.nextInt(4)) {
                case 0: s.delete(at, to); break;
                case 1: s.insert(at, STRAY[upTo(STRAY.length - 1)]); break;
                case 2: s.replace(at, to, STRAY[upTo(STRAY.length - 1)]); break;
                default: s.setLength(at);
            }
        }
        if (in(50)) {
            s.append(" ".repeat(upTo(400)));
        }
        s.setLength(Math.min(s.length(), 400));
        return s.toString();
    }
}
