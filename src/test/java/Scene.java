import java.util.ArrayList;
import java.util.List;

/** Objects to try things on, and all that can be seen of one. */
final class Scene {
    /** An object is used for at most 512 calls; what came before the trace needs some of them. */
    private static final int MOST_TRACED = 420;

    private Scene() {
    }

    static GraveRails of(String yard) {
        GraveRails x = new GraveRails();
        Checks.tellYard(x, yard);
        return x;
    }

    static GraveRails of(String yard, String rule) {
        GraveRails x = of(yard);
        x.force(Checks.tellRule(x, rule));
        return x;
    }

    static GraveRails pass(GraveRails x, int years) {
        for (int i = 0; i < years; i++) {
            x.year();
        }
        return x;
    }

    /** As many as told, in a LANE each CELL, of one KIND: "yard 2 20;grave 0 0 plain;grave 0 1 plain;...". */
    static String rowOf(int graves, String kind) {
        StringBuilder s = new StringBuilder("yard 2 20");
        for (int i = 0; i < graves; i++) {
            s.append(";grave 0 ").append(i).append(' ').append(kind);
        }
        return s.toString();
    }

    /** RULES, IMAGES, SIGHTS, ACTS (one of them undone), x, and a text on the TAPE that was not read yet. */
    static GraveRails rich() {
        GraveRails x = new GraveRails();
        Checks.tellRule(x, "go 1+unpaid");
        Checks.tellRule(x, "go 2 if child=1;go 1");
        Checks.tellYard(x, "yard 2 6;grave 0 3 unpaid;grave 0 5 child;grave 1 4 plain;grave 1 1 stands;pair 0 2;"
                + "root 1 1 2;heavy 2;flood 3");
        x.force(1);
        x.seed(7);
        x.image(0);
        x.sight(2, 4, 0);
        x.year();
        x.dig(1, 5, 2);
        x.image(2);
        x.frost(0);
        x.undo();
        x.pay(4);
        x.sight(0, 3, 1);
        Checks.type(x, "yard 1 9;grave 0 8 child;grave 0 5 unpaid");
        return x;
    }

    /** All that can be seen of an object, call by call. It is of no use then: its ACTS and its TAPE are used up. */
    static List<String> traceOf(GraveRails x) {
        List<String> seen = new ArrayList<>();
        counts(x, seen);
        graves(x, seen);
        places(x, seen);
        asked(x, seen);
        for (int i = 0; i < 3; i++) {
            seen.add("undo " + x.undo());
            shortly(x, seen);
        }
        for (int k = 0; k < 4; k++) {
            seen.add("back " + k + " " + x.back(k));
            shortly(x, seen);
        }
        seen.add("yard of the TAPE " + x.yard());
        for (int rule = -1; rule < 6; rule++) {
            seen.add("force " + rule + " " + x.force(rule));
            for (int g = 0; g < 2; g++) {
                seen.add("rule " + rule + ": ahead " + g + " " + x.ahead(g, 1, 1));
            }
        }
        if (seen.size() > MOST_TRACED) {
            throw new IllegalStateException("a trace of " + seen.size() + " calls");
        }
        return seen;
    }

    private static void counts(GraveRails x, List<String> seen) {
        for (int what = 0; what < 13; what++) {
            seen.add("count " + what + " " + x.count(what));
        }
    }

    private static void graves(GraveRails x, List<String> seen) {
        for (int g = 0; g < 10 && x.grave(g, 0) != -2; g++) {
            for (int what = 0; what < 8; what++) {
                seen.add("grave " + g + " " + what + " " + x.grave(g, what));
            }
            for (int what = 0; what < 4; what++) {
                seen.add("stone " + g + " " + what + " " + x.stone(g, what));
            }
        }
    }

    private static void places(GraveRails x, List<String> seen) {
        for (int lane = 0; x.at(lane, 0) != -2; lane++) {
            for (int cell = 0; cell < 6; cell++) {
                seen.add("at " + lane + " " + cell + " " + x.at(lane, cell));
                seen.add("root " + lane + " " + cell + " " + x.root(lane, cell));
            }
        }
    }

    private static void asked(GraveRails x, List<String> seen) {
        for (int g = 0; g < 5; g++) {
            seen.add("fall " + g + " " + x.fall(g));
            seen.add("ahead " + g + " " + x.ahead(g, 2, 1));
            seen.add("order " + g + " " + x.order(g));
        }
        for (int what = 0; what < 3; what++) {
            seen.add("begin " + what + " " + x.begin(0, what));
            seen.add("dug " + what + " " + x.dug(2, 1, 1, what));
            seen.add("unpaid " + what + " " + x.unpaid(what));
        }
        for (int what = 0; what < 2; what++) {
            seen.add("look " + what + " " + x.look(1, what));
            seen.add("drawn " + what + " " + x.drawn(2, 9, 30, what));
        }
        seen.add("abreast " + x.abreast(0, 1));
        seen.add("war " + x.war(9));
    }

    private static void shortly(GraveRails x, List<String> seen) {
        counts(x, seen);
        seen.add("unpaid " + x.unpaid(0));
        for (int g = 0; g < 3; g++) {
            seen.add("grave " + g + " " + x.grave(g, 1) + " " + x.grave(g, 2) + " " + x.stone(g, 1));
        }
    }
}
