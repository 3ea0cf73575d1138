import java.util.List;

/** Promises 1 to 6: the TAPE, and the texts of YARDS and RULES. */
final class TextEdges {
    private static final int LEAST = Integer.MIN_VALUE;
    private static final int MOST = Integer.MAX_VALUE;

    private final Edges e;

    TextEdges(Edges e) {
        this.e = e;
    }

    void all() {
        newObject();
        feed();
        end();
        yard();
        yardSize();
        yardGraves();
        yardPairs();
        yardRoots();
        yardHeavyAndFloods();
        yardClauses();
        rule();
        ruleClauses();
        ruleTests();
        ruleSums();
        ruleValues();
        ruleWords();
        ruleDepth();
        ruleCounted();
        faults();
        force();
    }

    private static int fault(int place, int what) {
        return -2 - (1 + 8 * place + what);
    }

    private void yard(String text, int want) {
        e.due("\"" + text + "\"", Checks.tellYard(new GraveRails(), text), want);
    }

    /** Its place is where the sign ^ stands, that is left out. */
    private void yardFault(String text, int what) {
        yard(text.replace("^", ""), fault(text.indexOf('^'), what));
    }

    private void rule(String text, int want) {
        e.due("\"" + text + "\"", Checks.tellRule(new GraveRails(), text), want);
    }

    private void ruleFault(String text, int what) {
        rule(text.replace("^", ""), fault(text.indexOf('^'), what));
    }

    /** STEPS that a plain GRAVE in LANE 2 and CELL 19, alone, goes in YEAR 0. */
    private void goes(String rule, int steps) {
        GraveRails x = Scene.of("yard 3 20;grave 2 19 plain", rule);
        x.year();
        e.due("STEPS by \"" + rule + "\"", 19 - x.grave(0, 1), steps);
    }

    private void holds(String test, boolean want) {
        goes("go 3 if " + test + ";go 5", want ? 3 : 5);
    }

    // ---- promises 1 to 3

    private void newObject() {
        GraveRails x = new GraveRails();
        e.says(1, "No YARD");
        e.due("LANES", x.count(0), 0);
        e.due("CELLS", x.count(1), 0);
        e.due("GRAVES", x.count(2), 0);
        e.due("year", x.year(), -1);
        e.due("at", x.at(0, 0), -2);
        e.due("grave", x.grave(0, 0), -2);
        e.due("unpaid", x.unpaid(0), -1);
        e.due("YEAR", x.count(5), 0);
        e.due("fallen", x.count(6), 0);
        e.due("held", x.count(7), 0);
        e.due("SIGHTS", x.count(8), 0);
        e.due("ACTS", x.count(9), 0);
        e.due("undo", x.undo(), -1);
        e.due("rounds", x.count(12), 0);
        e.says(1, "no RULES");
        e.due("RULES", x.count(3), 0);
        e.due("force 0", x.force(0), -2);
        e.says(1, "none IN FORCE");
        e.due("count", x.count(4), -1);
        e.due("force", x.force(-1), -1);
        e.says(1, "GraveRails()");
        for (int k = 0; k < 4; k++) {
            e.due("no IMAGE " + k, x.back(k), -1);
        }
        e.due("an empty TAPE", x.count(11), 0);
        e.due("another object has a TAPE of its own", x.feed(1, 2, 3, 4, 5), 20);
        e.due("another object has a TAPE of its own", new GraveRails().count(11), 0);
        e.says(1, "`NONE = -1`: None.");
        e.due("NONE", GraveRails.NONE, -1);
    }

    private void feed() {
        e.says(2, "Twenty bytes come behind the TAPE");
        GraveRails x = new GraveRails();
        // "yard 2 5;grave 1 3 p", then "lain": what comes second is read behind what came first
        e.due("the first twenty", x.feed(0x79617264, 0x20322035, 0x3b677261, 0x76652031, 0x20332070), 20);
        e.due("twenty more", x.feed(0x6c61696e, 0x20202020, 0x20202020, 0x20202020, 0x20202020), 40);
        e.due("one GRAVE", x.yard(), 1);
        e.due("its CELL", x.grave(0, 1), 3);
        x.feed(0, 0, 0, 0, 0);
        x.end(3);
        e.due("behind what end left", x.feed(0, 0, 0, 0, 0), 23);

        e.says(2, "of each number the highest first");
        byteAt(0x21, 0x20, 0x20, 0x20, 0, "the highest");
        byteAt(0x20, 0x21, 0x20, 0x20, 1, "the second");
        byteAt(0x20, 0x20, 0x21, 0x20, 2, "the third");
        byteAt(0x20, 0x20, 0x20, 0x21, 3, "the lowest");
        byteAt(0xff, 0x20, 0x20, 0x20, 0, "the highest, of a number below 0");
        byteAt(0x20, 0xff, 0xff, 0xff, 1, "255");
        byteAt(0x20, 0x80, 0x80, 0x80, 1, "128");
        byteAt(0xa0, 0x20, 0x20, 0x20, 0, "160 is no blank");

        e.says(2, "how many it has");
        x = new GraveRails();
        for (int i = 1; i <= 20; i++) {
            e.due("feed", x.feed(i, -1, LEAST, MOST, 0), 20 * i);
        }
        e.due("count", x.count(11), 400);

        e.says(2, "NONE, and none comes, if it would have more than 400.");
        e.due("401 to 420", x.feed(0, 0, 0, 0, 0), -1);
        e.due("none came", x.count(11), 400);
        x.end(381);
        e.due("one too many", x.feed(0, 0, 0, 0, 0), -1);
        e.due("none came", x.count(11), 381);
        x.end(380);
        e.due("400", x.feed(0, 0, 0, 0, 0), 400);
        String full = "yard 1 2;grave 0 0 plain" + " ".repeat(376);
        e.leavesAll("feed beyond 400", () -> typed(full), y -> y.feed(1, 2, 3, 4, 5), -1);
        String almost = full.substring(0, 381);
        e.leavesAll("feed from 381", () -> typed(almost), y -> y.feed(0x3b3b3b3b, 2, 3, 4, 5), -1);
    }

    private static GraveRails typed(String text) {
        GraveRails x = new GraveRails();
        Checks.type(x, text);
        return x;
    }

    /** Of blanks and others that can't stand in a text the first one's place is told. */
    private void byteAt(int a, int b, int c, int d, int place, String which) {
        for (int i = 0; i < 5; i++) {
            int[] n = {0x20202020, 0x20202020, 0x20202020, 0x20202020, 0x20202020};
            n[i] = a << 24 | b << 16 | c << 8 | d;
            GraveRails x = new GraveRails();
            x.feed(n[0], n[1], n[2], n[3], n[4]);
            e.due(which + " of number " + i, x.yard(), fault(4 * i + place, 0));
        }
    }

    private void end() {
        e.says(3, "The TAPE has its first n bytes alone: n");
        GraveRails x = typed("yard 1 23");
        e.due("8 of 9", x.end(8), 8);
        e.due("count", x.count(11), 8);
        x.yard();
        e.due("the 3 is not there any more", x.count(1), 2);
        x = typed("yard 1 2 ;;;;;;;;;;;");
        e.due("all of them", x.end(20), 20);
        e.due("count", x.count(11), 20);
        e.due("none of them", x.end(0), 0);
        e.due("count", x.count(11), 0);
        e.due("none of none", x.end(0), 0);
        e.due("a text of none", x.yard(), fault(0, 0));
        x = typed("yard 1 2");
        x.end(5);
        e.due("what was cut does not come back", x.end(6), -1);
        e.says(3, "NONE, and nothing happens, if it has not so many, or n is below 0.");
        int[] without = {-1, LEAST, MOST, 401};
        for (int n : without) {
            e.leavesAll("end " + n, y -> y.end(n), -1);
        }
        int size = Scene.rich().count(11);
        e.leavesAll("end of one more than there are", y -> y.end(size + 1), -1);
        e.due("end of as many", Scene.rich().end(size), size);
        e.due("1 of none", new GraveRails().end(1), -1);
        e.due("-1 of none", new GraveRails().end(-1), -1);
    }

    // ---- promise 4

    private void yard() {
        e.says(4, "The TAPE, which is empty then, is the YARD in place of the one there was");
        GraveRails x = Scene.of("yard 3 9;grave 0 8 plain;grave 1 7 child;pair 0 1;root 2 4 9;heavy 0;flood 0");
        e.due("tell another", Checks.tellYard(x, "yard 2 4;grave 1 1 stands"), 1);
        e.due("the TAPE is empty", x.count(11), 0);
        e.due("LANES", x.count(0), 2);
        e.due("CELLS", x.count(1), 4);
        e.due("GRAVES", x.count(2), 1);
        e.due("its LANE", x.grave(0, 0), 1);
        e.due("its KIND", x.grave(0, 2), 3);
        e.due("no pair any more", x.grave(0, 6), -1);
        e.due("not heavy any more", x.stone(0, 2), 0);
        e.due("its place is free", x.at(0, 3), -1);
        e.due("no such LANE any more", x.root(2, 1), -1);
        Checks.tellYard(x, "yard 3 9;grave 0 1 plain");
        e.due("no ROOT any more", x.root(2, 4), 0);
        e.due("no FLOOD any more", x.year(), 0);
        e.due("it falls", x.year(), 1);
        Checks.tellYard(x, "yard 3 9;grave 0 1 plain");
        e.due("none fell", x.count(6), 0);
        e.due("none fell", x.grave(0, 4), -1);

        String round = "yard 2 9;grave 0 6 child;grave 0 5 stands;root 1 5 9";
        x = Scene.pass(Scene.of(round), 1);
        e.due("one is held", x.count(7), 1);
        e.due("one went ROUND", x.count(12), 1);
        Checks.tellYard(x, round);
        e.due("none is held", x.count(7), 0);
        e.due("none went ROUND", x.count(12), 0);
        e.due("no set but one", x.unpaid(0), 1);
        Checks.tellYard(x, "yard 2 9;grave 0 6 unpaid;grave 0 5 plain");
        e.due("other ones to be unpaid", x.unpaid(0), 4);
        Checks.tellYard(x, round);
        e.due("no set but one", x.unpaid(0), 1);
        String full = Scene.rowOf(10, "plain") + ";root 0 0 1;root 0 1 1;root 0 2 1;root 0 3 1;root 0 4 1;root 0 5 1"
                + ";flood 1;flood 2;flood 3;flood 4;flood 5;flood 6";
        for (int i = 0; i < 3; i++) {
            e.due("a full one again", Checks.tellYard(x, full), 10);
        }

        e.says(4, "(YEAR 0, no SIGHTS, nothing to be UNDONE;");
        x = Scene.rich();
        e.due("there was a YEAR", x.count(5), 1);
        e.due("there were SIGHTS", x.count(8), 2);
        e.due("there were ACTS", x.count(9), 3);
        e.due("yard", x.yard(), 2);
        e.due("YEAR", x.count(5), 0);
        e.due("SIGHTS", x.count(8), 0);
        e.due("all sets are so", x.unpaid(0), 2);
        e.due("ACTS", x.count(9), 0);
        e.due("undo", x.undo(), -1);
        e.due("a first ACT", x.year(), 0);
        e.due("undone", x.undo(), 0);
        e.due("no other one", x.undo(), -1);

        e.says(4, "the RULE IN FORCE, x, IMAGES stay): how many GRAVES");
        x = Scene.rich();
        e.due("yard", x.yard(), 2);
        e.due("IN FORCE", x.count(4), 1);
        e.due("by it a child goes two", x.ahead(0, 1, 1), 6);
        e.due("x", x.count(10), 7);
        e.due("IMAGE 2", x.back(2), 1);
        e.due("its GRAVES", x.count(2), 5);
        e.due("IMAGE 0", x.back(0), 0);
        e.due("its GRAVES", x.count(2), 4);
        e.due("none", Checks.tellYard(x, "yard 1 2"), 0);
        e.due("ten", Checks.tellYard(x, Scene.rowOf(10, "plain")), 10);

        e.says(4, "-2 - its FAULT (the TAPE is empty then, too), and all else stays.");
        String spoiled = "yard 4 20;grave 3 19 child;grave 3 18 child;pair 0 1;root 0 0 9;heavy 0;flood 1;flood 1";
        e.leavesAll("a FAULT", () -> emptied(Scene.rich()), y -> Checks.tellYard(y, spoiled), fault(86, 1));
        e.leavesAll("a FAULT at first", GraveRails::new, y -> Checks.tellYard(y, "yard 4 20;"), fault(10, 0));
        x = Scene.rich();
        Checks.tellYard(x, "yard 1 2 ;");
        e.due("the TAPE is empty", x.count(11), 0);
        e.due("an empty one", x.yard(), fault(0, 0));
    }

    private static GraveRails emptied(GraveRails x) {
        x.end(0);
        return x;
    }

    private void yardSize() {
        e.says(4, "A YARD is a text of at most 400 bytes");
        String text = "yard 1 20;grave 0 19 plain";
        yard(text + " ".repeat(400 - text.length()), 1);
        yardFault(text + " ".repeat(399 - text.length()) + "^:", 0);
        yardFault(text + " ".repeat(399 - text.length()) + ";^", 0);
        String late = text + ";" + " ".repeat(400 - text.length() - 16);
        yard(late + "grave 0 0 plain", 2);

        e.says(4, "yard NUMBER NUMBER (LANES 1 to 4, CELLS 2 to 20;");
        for (int lanes = 1; lanes <= 4; lanes++) {
            GraveRails x = Scene.of("yard " + lanes + " 7");
            e.due("LANES of " + lanes, x.count(0), lanes);
            e.due("the last LANE of " + lanes, x.at(lanes - 1, 6), -1);
            e.due("one more than " + lanes, x.at(lanes, 6), -2);
        }
        yardFault("yard ^0 7", 1);
        yardFault("yard ^5 7", 1);
        yardFault("yard ^99999 7", 1);
        for (int cells : new int[] {2, 3, 19, 20}) {
            GraveRails x = Scene.of("yard 2 " + cells);
            e.due("CELLS of " + cells, x.count(1), cells);
            e.due("the last CELL of " + cells, x.at(1, cells - 1), -1);
            e.due("one more than " + cells, x.at(1, cells), -2);
        }
        yardFault("yard 2 ^1", 1);
        yardFault("yard 2 ^0", 1);
        yardFault("yard 2 ^21", 1);
        yardFault("yard 2^", 0);
        yardFault("yard^", 0);
        yardFault("yard ^plain 2", 0);
        yardFault("yard 1 2 ^2", 0);

        e.says(4, "once, the first CLAUSE)");
        yardFault("yard 1 2;^yard 1 2", 4);
        yardFault("yard 1 2;flood 1; ^yard 1 2", 4);
        yardFault("^flood 1;yard 1 2", 4);
        yardFault(" ^grave 0 0 plain", 4);
        yardFault("^pair 0 1", 4);
        yardFault("^root 0 0 1", 4);
        yardFault("^heavy 0", 4);
    }

    private void yardGraves() {
        e.says(4, "grave NUMBER NUMBER KIND (a LANE, a CELL that no other one has; KIND: plain, child, unpaid, stands)");
        GraveRails x = Scene.of("yard 4 20;grave 0 0 plain;grave 3 19 child;grave 0 19 unpaid;grave 3 0 stands");
        int[][] told = {{0, 0, 0}, {3, 19, 1}, {0, 19, 2}, {3, 0, 3}};
        for (int g = 0; g < 4; g++) {
            for (int what = 0; what < 3; what++) {
                e.due("GRAVE " + g + ", what " + what, x.grave(g, what), told[g][what]);
            }
        }
        yardFault("yard 4 20;grave ^4 0 plain", 1);
        yardFault("yard 1 20;grave ^1 0 plain", 1);
        yardFault("yard 4 20;grave 0 ^20 plain", 1);
        yardFault("yard 4 2;grave 0 ^2 plain", 1);
        yard("yard 4 2;grave 0 1 plain", 1);
        yardFault("yard 2 3;grave 1 2 child;grave 0 2 plain;grave 1 ^2 plain", 1);
        yard("yard 2 3;grave 1 2 child;grave 0 2 plain;grave 1 1 plain", 3);
        yardFault("yard 2 3;grave 1 2 ^plai", 0);
        yardFault("yard 2 3;grave 1 2 ^plains", 0);
        yardFault("yard 2 3;grave 1 2 ^yard", 0);
        yardFault("yard 2 3;grave 1 2 ^3", 0);
        yardFault("yard 2 3;grave 1 2^", 0);
        yardFault("yard 2 3;grave 1 2^;flood 1", 0);
        yardFault("yard 2 3;grave 1 ^plain", 0);
        yardFault("yard 2 3;grave ^plain", 0);
        yardFault("yard 2 3;grave 1 2 plain ^plain", 0);

        e.says(4, "GRAVES 0 to 9, ROOTS 0 to 5, FLOODS 0 to 5 (each YEAR once, unlike), in the order told.");
        yard(Scene.rowOf(10, "plain"), 10);
        yardFault(Scene.rowOf(10, "plain") + ";^grave 1 0 plain", 4);
        x = Scene.of("yard 2 20;grave 1 5 plain;grave 0 7 plain;grave 1 2 plain");
        e.due("the first", x.at(1, 5), 0);
        e.due("the second", x.at(0, 7), 1);
        e.due("the third", x.at(1, 2), 2);
        String roots = "yard 2 20;root 0 0 1;root 0 1 2;root 0 2 3;root 0 3 4;root 0 4 5;root 0 5 6";
        x = Scene.of(roots);
        for (int i = 0; i < 6; i++) {
            e.due("ROOT " + i, x.root(0, i), i + 1);
        }
        yardFault(roots + ";^root 1 0 1", 4);
        String floods = "yard 2 20;grave 0 0 stands;flood 0;flood 1;flood 2;flood 3;flood 4;flood 5";
        yard(floods, 1);
        yardFault(floods + ";^flood 6", 4);
        yardFault(floods + ";^flood 5", 4);
        x = Scene.of("yard 2 20;grave 0 0 stands;flood 99;flood 30;flood 70;flood 9;flood 80;flood 10");
        int[] rising = {9, 10, 30, 70, 80, 99};
        for (int year : rising) {
            GraveRails y = Scene.pass(Scene.of("yard 2 20;flood 99;flood 30;flood 70;flood 9;flood 80;flood 10"), year);
            y.dig(0, 0, 3);
            e.due("a FLOOD in " + year, y.fall(0), year);
        }
        e.due("the first FLOOD of them", x.fall(0), 9);

        e.says(4, "The STONE of each is where it is at first. It is YEAR 0.");
        x = Scene.of("yard 4 20;grave 3 19 child;grave 1 0 stands");
        e.due("LANE", x.stone(0, 0), 3);
        e.due("CELL", x.stone(0, 1), 19);
        e.due("LANE", x.stone(1, 0), 1);
        e.due("CELL", x.stone(1, 1), 0);
        e.due("YEAR", x.count(5), 0);
        e.due("dug in", x.grave(0, 5), 0);
    }

    private void yardPairs() {
        e.says(4, "pair NUMBER NUMBER (two GRAVES that were told, neither of a pair yet)");
        String three = "yard 2 9;grave 0 1 plain;grave 0 2 plain;grave 0 3 plain;";
        yard(three + "pair 0 1", 3);
        yard(three + "pair 2 0", 3);
        yardFault(three + "pair ^3 0", 1);
        yardFault(three + "pair 0 ^3", 1);
        yardFault(three + "pair 0 ^3;grave 0 4 plain", 1);
        yard(three + "grave 0 4 plain;pair 0 3", 4);
        yardFault("yard 2 9;pair ^0 1", 1);
        yardFault("yard 2 9;grave 0 1 plain;pair 0 ^1", 1);
        yardFault(three + "pair 0 1;pair ^0 2", 1);
        yardFault(three + "pair 0 1;pair ^1 2", 1);
        yardFault(three + "pair 0 1;pair 2 ^0", 1);
        yardFault(three + "pair 0 1;pair 2 ^1", 1);
        yardFault(three + "pair 0 1;pair ^0 1", 1);
        yardFault(three + "pair 0 ^0", 1);
        yardFault(three + "pair 2 ^2", 1);
        yardFault(three + "pair 0^", 0);
        yardFault(three + "pair^", 0);
        yardFault(three + "pair 0 1 ^2", 0);
        GraveRails x = Scene.of(Scene.rowOf(10, "plain") + ";pair 0 9;pair 8 1;pair 7 2;pair 3 6;pair 4 5");
        int[] other = {9, 8, 7, 6, 5, 4, 3, 2, 1, 0};
        for (int g = 0; g < 10; g++) {
            e.due("five pairs: of " + g, x.grave(g, 6), other[g]);
        }
    }

    private void yardRoots() {
        e.says(4, "root NUMBER NUMBER NUMBER (a LANE, a CELL that has no ROOT yet, YEARS 1 to 9)");
        GraveRails x = Scene.of("yard 4 20;root 0 0 1;root 3 19 9;grave 3 18 plain;root 3 18 5");
        e.due("1 YEAR", x.root(0, 0), 1);
        e.due("9 YEARS", x.root(3, 19), 9);
        e.due("in a CELL with a GRAVE", x.root(3, 18), 5);
        yardFault("yard 4 20;root ^4 0 1", 1);
        yardFault("yard 3 20;root ^3 0 1", 1);
        yardFault("yard 4 20;root 0 ^20 1", 1);
        yardFault("yard 4 19;root 0 ^19 1", 1);
        yardFault("yard 4 20;root 0 0 ^0", 1);
        yardFault("yard 4 20;root 0 0 ^10", 1);
        yardFault("yard 4 20;root 2 7 1;root 2 6 1;root 2 ^7 2", 1);
        yard("yard 4 20;root 2 7 1;root 2 6 1;root 1 7 1", 0);
        yardFault("yard 4 20;root 2 7^", 0);
        yardFault("yard 4 20;root 2^", 0);
        yardFault("yard 4 20;root^", 0);
        yardFault("yard 4 20;root 2 7 1 ^1", 0);
    }

    private void yardHeavyAndFloods() {
        e.says(4, "heavy NUMBER (a GRAVE that was told)");
        yard("yard 2 9;grave 0 1 plain;heavy 0", 1);
        yardFault("yard 2 9;grave 0 1 plain;heavy ^1", 1);
        yardFault("yard 2 9;heavy ^0", 1);
        yardFault("yard 2 9;heavy ^0;grave 0 1 plain", 1);
        yardFault("yard 2 9;grave 0 1 plain;heavy^", 0);
        yard("yard 2 9;grave 0 1 plain;heavy 0;heavy 0", 1);
        e.due("the last one", Scene.of(Scene.rowOf(10, "plain") + ";heavy 9").stone(9, 2), 1);
        e.due("no other one", Scene.of(Scene.rowOf(10, "plain") + ";heavy 9").stone(8, 2), 0);

        e.says(4, "flood NUMBER (a YEAR 0 to 99)");
        e.due("0", Scene.of("yard 2 9;grave 0 1 stands;flood 0").fall(0), 0);
        e.due("99", Scene.of("yard 2 9;grave 0 1 stands;flood 99").fall(0), 99);
        yardFault("yard 2 9;flood ^100", 1);
        yardFault("yard 2 9;flood^", 0);
        yardFault("yard 2 9;flood 7;flood 8;flood ^7", 1);
        yard("yard 2 9;flood 7;flood 8;flood 77", 0);
        yardFault("yard 2 9;flood 0;flood ^00000", 1);
    }

    private void yardClauses() {
        e.says(4, "CLAUSE { ; CLAUSE }, 40 at most");
        yard("yard 1 2", 0);
        yard("yard 1 2;flood 1", 0);
        yardFault("^", 0);
        yardFault("yard 1 2;^", 0);
        yardFault("yard 1 2; ^", 0);
        yardFault("^;yard 1 2", 0);
        yardFault("yard 1 2;^;flood 1", 0);
        yardFault("yard 1 2 ^flood 1", 0);
        yardFault("yard 1 2^,flood 1", 0);
        yardFault("yard 1 2;^floods 1", 0);
        yardFault("yard 1 2;^go 1", 0);
        yardFault("yard 1 2;^5", 0);
        String forty = "yard 1 20;grave 0 19 plain" + ";heavy 0".repeat(38);
        yard(forty, 1);
        yardFault(forty + "; ^heavy 0", 4);
        yardFault(forty + ";^flood 1", 4);
        yardFault(forty + ";^", 0);
        yardFault(forty + ";^heav 0", 0);
        yard("yard 1 20;grave 0 19 plain" + ";heavy 0".repeat(37), 1);
    }

    // ---- promise 5

    private void rule() {
        e.says(5, "The TAPE, which is empty then, is a RULE: its number");
        GraveRails x = Scene.of("yard 1 20;grave 0 19 plain");
        for (int i = 0; i < 6; i++) {
            e.due("RULE", Checks.tellRule(x, "go " + (i + 2)), i);
            e.due("the TAPE is empty", x.count(11), 0);
            e.due("so many", x.count(3), i + 1);
            e.due("not IN FORCE by itself", x.count(4), -1);
        }
        for (int i = 0; i < 6; i++) {
            x.force(i);
            e.due("by RULE " + i, x.ahead(0, 1, 1), 19 - (i + 2));
        }

        e.says(5, "-2 - its FAULT; NONE, and nothing happens: there are 6.");
        e.due("a FAULT", Checks.tellRule(new GraveRails(), "go 1 if"), fault(7, 0));
        GraveRails y = Scene.of("yard 1 20;grave 0 19 plain");
        Checks.tellRule(y, "go 3");
        e.due("a FAULT at its end", Checks.tellRule(y, "go 1;go 2 if 1<1;go 7 if 1"), fault(26, 0));
        e.due("the TAPE is empty", y.count(11), 0);
        e.due("one RULE still", y.count(3), 1);
        e.due("no second one", y.force(1), -2);
        y.force(0);
        e.due("the first is as it was", y.ahead(0, 1, 1), 16);
        for (int i = 0; i < 8; i++) {
            e.due("a long one", Checks.tellRule(y, "go 1" + "+1".repeat(59) + ";"), fault(123, 0));
        }
        e.due("the next one has its number", Checks.tellRule(y, "go 2+2"), 1);
        y.force(1);
        e.due("nothing of the spoiled ones is in it", y.ahead(0, 1, 1), 15);
        e.leavesAll("a FAULT", () -> emptied(Scene.rich()), z -> Checks.tellRule(z, "go 9;go"), fault(7, 0));
        e.leavesAll("a seventh", () -> sixRules("yard 1 4;grave 0 3 plain"), z -> z.rule(), -1);
        e.leavesAll("a seventh, that has a FAULT", () -> sixRules("x"), z -> z.rule(), -1);
        e.leavesAll("a seventh, of an empty TAPE", () -> sixRules(""), z -> z.rule(), -1);
        GraveRails z = sixRules("go 1");
        Checks.tellYard(z, "yard 1 2");
        e.due("a YARD makes no room for RULES", Checks.tellRule(z, "go 1"), -1);

        e.says(5, "RULES 0 to 5: texts likewise, 12 CLAUSES at most");
        String twelve = "go 1 if 1<1" + ";go 2 if 1<1".repeat(10) + ";go 7";
        goes(twelve, 7);
        rule(twelve, 0);
        ruleFault(twelve + "; ^go 8", 4);
        ruleFault(twelve + ";^", 0);
        ruleFault(twelve + ";^goo 8", 0);
        String text = "go 8 if 2<1;";
        goes(text + " ".repeat(396 - text.length()) + "go 4", 4);
        ruleFault(text + " ".repeat(400 - text.length()) + "^", 0);
        ruleFault("go 1" + " ".repeat(395) + "^:", 0);
        ruleFault("go 1" + " ".repeat(395) + ";^", 0);
        ruleFault(" ".repeat(400) + "^", 0);
    }

    private static GraveRails sixRules(String tape) {
        GraveRails x = Scene.of("yard 1 6;grave 0 5 plain;grave 0 2 child");
        for (int i = 0; i < 6; i++) {
            Checks.tellRule(x, "go " + i);
        }
        x.force(2);
        Checks.type(x, tape);
        return x;
    }

    private void ruleClauses() {
        e.says(5, "go SUM [ if TEST ].");
        rule("go 1", 0);
        rule("go 1 if 1<2", 0);
        ruleFault("go^", 0);
        ruleFault("go ^if 1<2", 0);
        ruleFault("go 1 if^", 0);
        ruleFault("go 1 if ^;go 1", 0);
        ruleFault("go 1 ^then 1<2", 0);
        ruleFault("go 1 if 1<2 ^if 1<2", 0);
        ruleFault("^g 1", 0);
        ruleFault("^if 1<2", 0);
        ruleFault("^yard 1 2", 0);
        ruleFault("go 1;^", 0);
        ruleFault("go 1;^;go 1", 0);
        ruleFault("go 1 ^go 1", 0);
    }

    private void ruleTests() {
        String t = "1<2";
        String f = "2<1";
        e.says(5, "TEST: PART { or PART }. PART: FACT { and FACT }.");
        holds(f + " or " + t, true);
        holds(t + " or " + f, true);
        holds(f + " or " + f, false);
        holds(f + " or " + f + " or " + t, true);
        holds(t + " and " + f, false);
        holds(f + " and " + t, false);
        holds(t + " and " + t, true);
        holds(t + " and " + t + " and " + f, false);
        // and binds more
        holds(t + " or " + t + " and " + f, true);
        holds(f + " and " + t + " or " + t, true);
        holds(f + " and " + f + " or " + f, false);
        ruleFault("go 1 if " + t + " and^", 0);
        ruleFault("go 1 if " + t + " or^", 0);
        ruleFault("go 1 if " + t + " ^xor " + t, 0);
        ruleFault("go 1 if ^and " + t, 0);
        ruleFault("go 1 if " + t + " and ^or " + t, 0);
        ruleFault("go 1 if " + t + " ^" + t, 0);

        e.says(5, "FACT: not FACT | [ TEST ] (these brackets are signs) | SUM SIGN SUM");
        holds("not " + f, true);
        holds("not " + t, false);
        holds("not not " + t, true);
        // of one FACT alone
        holds("not " + f + " and " + f, false);
        holds("not " + t + " or " + t, true);
        holds("[" + t + " or " + t + "] and " + f, false);
        holds("not [" + t + " and " + f + "]", true);
        holds("[[" + f + "] or [" + t + "]]", true);
        holds(t + " and [" + f + "]", false);
        holds(t + " and not " + t, false);
        holds(t + " and [" + f + " or " + f + "]", false);
        holds(t + " and [" + t + " and [" + f + "]]", false);
        ruleFault("go 1 if not^", 0);
        ruleFault("go 1 if [" + t + "^", 0);
        ruleFault("go 1 if [" + t + "^;go 1", 0);
        ruleFault("go 1 if [^]", 0);
        ruleFault("go 1 if " + t + "^]", 0);
        ruleFault("go 1 if [1^]<2", 0);
        ruleFault("go 1 if [" + t + "]^<2", 0);
        ruleFault("go ^[1]", 0);
        ruleFault("go 1 if 1^", 0);
        ruleFault("go 1 if 1 ^and " + t, 0);
        ruleFault("go 1 if 1<^", 0);
        ruleFault("go 1 if 1<2^<3", 0);
        ruleFault("go 1 if 1<^not 2", 0);

        e.says(5, "SIGN one of < <= = >= >");
        String[] signs = {"<", "<=", "=", ">=", ">"};
        for (int a = 1; a <= 3; a++) {
            boolean[] want = {a < 2, a <= 2, a == 2, a >= 2, a > 2};
            for (int i = 0; i < 5; i++) {
                holds(a + signs[i] + "2", want[i]);
                holds(a + " " + signs[i] + " 2", want[i]);
                holds("not " + a + signs[i] + "2", !want[i]);
                holds(a + signs[i] + "2 and 1<2", want[i]);
                holds("2<1 or " + a + signs[i] + "2", want[i]);
            }
        }
        ruleFault("go 1 if 1=^<2", 0);
        ruleFault("go 1 if 1=^=2", 0);
        ruleFault("go 1 if 1<^>2", 0);
        ruleFault("go 1 if 1<=^=2", 0);
        ruleFault("go 1 if 1>^<2", 0);
        ruleFault("go 1 if 1< ^=2", 0);
        ruleFault("go 1 if 1> ^=2", 0);
        ruleFault("go 1 if 1^!2", 0);
    }

    private void ruleSums() {
        e.says(5, "SUM: TERM { (+ or -) TERM }. TERM: VALUE { (* or / or %) VALUE }.");
        goes("go 2+3", 5);
        goes("go 7-3", 4);
        goes("go 9-3-2", 4);
        goes("go 9-3+2", 8);
        goes("go 2*3", 6);
        goes("go 9/2", 4);
        goes("go 9%4", 1);
        goes("go 1+2*3", 7);
        goes("go 2*3+1", 7);
        goes("go 9-8/4", 7);
        goes("go 9-8%5-1", 5);
        goes("go 8/4/2", 1);
        goes("go 8/4*2", 4);
        goes("go 7*5%4", 3);
        goes("go 17%10%4", 3);
        ruleFault("go 1+^", 0);
        ruleFault("go 1+^+1", 0);
        ruleFault("go 1*^-1", 0);
        ruleFault("go ^-1", 0);
        ruleFault("go ^*1", 0);
        ruleFault("go 1 ^1", 0);
        ruleFault("go 1^&1", 0);

        e.says(5, "/ is towards 0, % its rest, both 0 by 0;");
        goes("go 7/2", 3);
        goes("go 7%2", 1);
        goes("go 5/0+2", 2);
        goes("go 5%0+2", 2);
        goes("go 0/0+2", 2);
        goes("go 5/1", 5);
        // pair is -7, and -1, of GRAVE 1
        farther("go 9+pair/2", 7, 6);
        farther("go 9+pair%4", 7, 6);
        farther("go 9+pair/7", 7, 8);
        farther("go 9+pair/8", 7, 9);
        farther("go 9+pair%7", 7, 9);
        farther("go 20/pair+5", 7, 3);
        farther("go 20%pair", 7, 6);
        farther("go pair/0+3", 7, 3);
        farther("go pair%0+3", 7, 3);

        e.says(5, "all goes round in 64 bits.");
        String most = "65536*65536*65536*32768";
        goes("go 3+65536*65536*65536*65536", 3);
        holds(most + "<0", true);
        holds(most + "-1>0", true);
        holds("65536*65536*65536*32767>0", true);
        holds("0-" + most + "<0", true);
        holds("65536*65536>0", true);
        farther("go 7 if " + most + "/pair<0;go 2", 1, 7);
        farther("go 7 if " + most + "%pair=0;go 2", 1, 7);
    }

    /** STEPS of a GRAVE whose pair's other one is so many CELLS nearer the sea. */
    private void farther(String rule, int cells, int steps) {
        GraveRails x = Scene.of("yard 2 20;grave 0 " + (19 - cells) + " plain;grave 1 19 plain;pair 0 1", rule);
        x.year();
        e.due("pair -" + cells + ", STEPS by \"" + rule + "\"", 19 - x.grave(1, 1), steps);
    }

    private void ruleValues() {
        e.says(5, "VALUE: NUMBER (1 to 5 digits, as far as digits go on) | WORD.");
        goes("go 4", 4);
        goes("go 00004", 4);
        holds("99999=99998+1", true);
        ruleFault("go ^000004", 1);
        ruleFault("go ^100000", 1);
        ruleFault("go 1 if ^123456<2", 1);
        ruleFault("go 1+^" + "1".repeat(390), 1);
        ruleFault("go 1 ^000004", 0);
        goes("go1+1if1<2", 2);

        e.says(5, "WORDS (small letters, as far as these go on) of a GRAVE");
        ruleFault("^goage", 0);
        ruleFault("^goa 1", 0);
        ruleFault("^goz 1", 0);
        ruleFault("go ^ages", 0);
        ruleFault("go ^agea", 0);
        ruleFault("go ^agez", 0);
        ruleFault("go age^{", 0);
        ruleFault("go age^`", 0);
        ruleFault("go 1/^:", 0);
        ruleFault("go 1^:", 0);
        ruleFault("go ^ag", 0);
        ruleFault("go ^cellcell", 0);
        ruleFault("go 1 if ^notcell<1", 0);
        ruleFault("go cell^A", 0);
        ruleFault("go ^Cell", 0);
        ruleFault("go cell^_", 0);
        ruleFault("go 1 ^ifcell<1", 0);
        ruleFault("go 1 if 1<1 ^andcell<1", 0);
        rule("go cell+1if not[cell<1]and cell>0or lane=1", 0);
        ruleFault("go ^root", 0);
        ruleFault("go ^plain", 0);
        ruleFault("go ^stands", 0);
        ruleFault("go ^heavy", 0);
        ruleFault("go ^and", 0);
        ruleFault("go ^if", 0);
        ruleFault("go ^not", 0);

        e.says(5, "Blanks (32) stand between as one likes.");
        goes("   go   4   if   1   <=   2   ;   go   5   ", 4);
        goes("go 4if not[1=2]or 2>1;go 5", 4);
        e.due("in a YARD, too", Checks.tellYard(new GraveRails(), "  yard1   3  ;grave 0 1plain ; heavy0;flood 1  "), 1);
        ruleFault("go 1^\t", 0);
        ruleFault("go 1^\n;go 2", 0);
        ruleFault("go 1^\0", 0);
        ruleFault("^\240go 1", 0);
        ruleFault("^g o 1", 0);
        ruleFault("go 1 ^2", 0);
    }

    private void ruleWords() {
        e.says(5, "grave, lane, cell, year");
        GraveRails x = Scene.of("yard 4 20;grave 0 19 plain;grave 3 19 plain;grave 1 8 plain", "go grave");
        x.year();
        e.due("grave 0", x.grave(0, 1), 19);
        e.due("grave 1", x.grave(1, 1), 18);
        e.due("grave 2", x.grave(2, 1), 6);
        x.force(Checks.tellRule(x, "go lane"));
        x.undo();
        x.year();
        e.due("lane 0", x.grave(0, 1), 19);
        e.due("lane 3", x.grave(1, 1), 16);
        e.due("lane 1", x.grave(2, 1), 7);
        x.force(Checks.tellRule(x, "go cell-5"));
        x.undo();
        x.year();
        e.due("cell 8", x.grave(2, 1), 5);
        e.due("cell 19", x.grave(0, 1), 10);
        x = Scene.of("yard 2 20;grave 0 19 plain", "go year");
        Scene.pass(x, 4);
        e.due("year 0, 1, 2, 3", x.grave(0, 1), 13);

        e.says(5, "age (YEARS since it was dug; for those told YEARS since 0)");
        x = Scene.of("yard 2 20;grave 0 19 plain", "go age");
        Scene.pass(x, 2);
        e.due("0, 1 of one that was told", x.grave(0, 1), 18);
        x.dig(1, 19, 0);
        x.year();
        e.due("0 in the YEAR it was dug in", x.grave(1, 1), 19);
        Scene.pass(x, 2);
        e.due("1, 2 then", x.grave(1, 1), 16);
        e.due("2, 3, 4 of one that was told", x.grave(0, 1), 9);

        e.says(5, "child, unpaid (1, or 0)");
        String kinds = "yard 4 20;grave 0 19 plain;grave 1 19 child;grave 2 19 unpaid";
        x = Scene.of(kinds, "go 3+child*2+unpaid*4");
        x.year();
        e.due("plain", x.grave(0, 1), 16);
        e.due("child", x.grave(1, 1), 14);
        e.due("unpaid", x.grave(2, 1), 12);

        e.says(5, "pair (CELLS the other one of its pair is farther from the sea; less than 0, if it is nearer;"
                + " 0 without, or if that fell)");
        // who has a farther one goes no STEP whatever its SUM is: the other one tells it by how far it goes
        farther("go 9+pair", 4, 5);
        farther("go 9+pair", 1, 8);
        goes("go 3 if pair=0;go 1", 3);
        x = Scene.of("yard 2 20;grave 0 9 plain;grave 1 9 plain;pair 0 1", "go 3 if pair=0;go 1-pair");
        x.year();
        e.due("in one CELL", x.grave(0, 1), 6);
        e.due("3 nearer then", x.grave(1, 1), 5);
        x = Scene.of("yard 2 20;grave 0 1 plain;grave 1 9 plain;pair 0 1;flood 0", "go 3 if pair=0;go 1");
        x.year();
        e.due("that fell", x.grave(1, 1), 6);
        // by what it would be: who waits is asked in vain, but its fall does not come
        x = Scene.of("yard 2 20;grave 0 3 plain;grave 1 9 plain;pair 0 1", "go 9 if pair>0;go 0-pair-1");
        x.year();
        e.due("nearer by 6", x.grave(1, 1), 4);

        e.says(5, "ahead (1 if a GRAVE lies in the next CELL of its LANE toward the sea, else 0)");
        x = Scene.of("yard 2 20;grave 0 9 stands;grave 0 10 plain;grave 1 11 plain;grave 0 12 plain;grave 0 0 plain", "go 3*ahead");
        x.year();
        e.due("one that stands: it goes round", x.grave(1, 1), 7);
        e.due("one in the next CELL of another LANE", x.grave(2, 1), 11);
        e.due("one two CELLS on", x.grave(3, 1), 12);
        e.due("in CELL 0", x.grave(4, 1), 0);
        x = Scene.of("yard 2 20;grave 0 9 plain;grave 0 10 plain", "go 3*ahead");
        x.year();
        e.due("one that lies there: no further", x.grave(1, 1), 10);
        x = Scene.of("yard 2 20;grave 0 0 plain;grave 0 1 plain", "go 1-ahead");
        x.year();
        e.due("one that fell in that YEAR", x.grave(1, 1), 0);

        e.says(5, "behind (GRAVES farther from the sea in its LANE)");
        x = Scene.of("yard 2 20;grave 0 5 plain;grave 0 6 stands;grave 0 18 plain;grave 1 9 plain;grave 1 0 plain", "go behind");
        x.year();
        e.due("two", x.grave(0, 1), 3);
        e.due("none", x.grave(2, 1), 18);
        e.due("nearer ones are not", x.grave(3, 1), 9);
        e.due("it falls", x.grave(4, 4), 0);
        x = Scene.of("yard 2 20;grave 0 19 stands;grave 0 12 plain", "go behind*3");
        x.year();
        e.due("GRAVE 0 behind", x.grave(1, 1), 9);
        x = Scene.of("yard 2 20;grave 0 1 plain;grave 1 12 plain;grave 0 18 plain;flood 0", "go behind");
        x.year();
        e.due("who fell is behind none", x.grave(2, 1), 18);
        e.due("who fell is behind none", x.grave(1, 1), 12);

        e.says(5, "flood (1 if it is a YEAR of FLOOD, else 0)");
        x = Scene.of("yard 2 20;grave 0 19 plain;flood 1", "go 2*flood");
        x.year();
        e.due("not in 0", x.grave(0, 1), 19);
        x.year();
        e.due("in 1", x.grave(0, 1), 17);
        x.year();
        e.due("not in 2", x.grave(0, 1), 17);

        e.says(5, "fallen (GRAVES that fell)");
        x = Scene.of("yard 4 20;grave 0 19 plain;grave 1 0 stands;grave 2 1 plain;grave 3 2 plain;flood 0", "go fallen*2");
        e.due("two by the flood, and one by its STEPS", x.year(), 3);
        e.due("two ahead of it, and that one", x.grave(0, 1), 13);
        x.year();
        e.due("those of other YEARS, too", x.grave(0, 1), 7);
    }

    private void ruleDepth() {
        e.says(5, "[ and not lie within one another 10 deep at most");
        String open = "go 3 if ";
        goes(open + "[".repeat(10) + "1<2" + "]".repeat(10) + ";go 5", 3);
        goes(open + "not ".repeat(10) + "1<2" + ";go 5", 3);
        goes(open + "not ".repeat(9) + "1<2" + ";go 5", 5);
        goes(open + "not[".repeat(5) + "1<2" + "]".repeat(5) + ";go 5", 5);
        ruleFault(open + "[".repeat(10) + "^[1<2" + "]".repeat(11), 2);
        ruleFault(open + "not ".repeat(10) + "^not 1<2", 2);
        ruleFault(open + "not[".repeat(5) + "^not 1<2" + "]".repeat(5), 2);
        ruleFault(open + "not[".repeat(5) + "^[1<2]" + "]".repeat(5), 2);
        // those that are closed don't count, nor those of another FACT or CLAUSE
        rule(open + "[".repeat(10) + "1<2" + "]".repeat(10) + " and " + "[".repeat(10) + "1<2" + "]".repeat(10), 0);
        rule(open + "not ".repeat(10) + "1<2 or " + "not ".repeat(10) + "1<2;go 1 if " + "not ".repeat(10) + "1<2", 0);
        ruleFault(open + "[".repeat(10) + "1<2 or ^not 1<2" + "]".repeat(10), 2);
        ruleFault(open + "[".repeat(9) + "[1<2] and [1<2] and [^[1<2]]" + "]".repeat(9), 2);
        rule(open + "[".repeat(9) + "[1<2] and [1<2] and not 1<2" + "]".repeat(9), 0);
    }

    private void ruleCounted() {
        e.says(5, "at most 60 VALUES (of SUMS) and FACTS made of a SIGN, together.");
        rule("go 1" + "+1".repeat(59), 0);
        ruleFault("go 1" + "+1".repeat(59) + "+^1", 3);
        ruleFault("go 1" + "+1".repeat(59) + "+^cell", 3);
        ruleFault("go 1" + "*1".repeat(59) + "*^1", 3);
        rule("go 1" + "+1".repeat(56) + " if 1<2", 0);
        ruleFault("go 1" + "+1".repeat(57) + " if 1<^2", 3);
        ruleFault("go 1" + "+1".repeat(58) + " if 1^<2", 3);
        ruleFault("go 1" + "+1".repeat(59) + " if ^1<2", 3);
        ruleFault("go 1" + "+1".repeat(59) + ";go ^1", 3);
        // FACTS of other kinds are none of these
        rule("go 1" + "+1".repeat(56) + " if not [not 1<2]", 0);
        rule("go 1+1+1 if 1<2" + " or 1<2".repeat(18), 0);
        ruleFault("go 1+1+1+1 if 1<2" + " or 1<2".repeat(17) + " or 1<^2", 3);
        ruleFault("go 1+1+1+1+1 if 1<2" + " or 1<2".repeat(17) + " or 1^<2", 3);
        GraveRails x = new GraveRails();
        e.due("of one RULE", Checks.tellRule(x, "go 1" + "+1".repeat(59)), 0);
        e.due("the next one may have as many", Checks.tellRule(x, "go 1" + "+1".repeat(59)), 1);
    }

    private void faults() {
        e.says(5, "FAULTS, the first along the text, 1 + 8 * its place and");
        rule("", -3);
        rule("go", -2 - 1 - 16);
        ruleFault("go ^000001;go;;;", 1);
        ruleFault("go 1 if " + "[".repeat(10) + "^[;", 2);
        rule(" ".repeat(400), -2 - 1 - 3200);
        yardFault("yard 1 2;grave 0 ^2 plane;heavy 7", 1);

        e.says(5, "0 a byte or WORD that can't stand there, or the end (behind the last byte)");
        ruleFault("go 1^?", 0);
        ruleFault("go 1 ^cell", 0);
        ruleFault("go ^foo", 0);
        ruleFault("go 1;^", 0);
        ruleFault("go 1;  ^", 0);
        yardFault("yard 1 2 ^?", 0);
        yardFault("yard 1 2 ^cell", 0);
        yardFault("yard 1  ^", 0);
        yardFault("yard 1^-2", 0);

        e.says(4, "1 a NUMBER of more digits, or not as told (a CELL that is taken, or has a ROOT, at it;"
                + " one of a pair already, or the second one of a pair, if it is the first, at it; a flood that was told)");
        yardFault("yard ^000001 2", 1);
        yardFault("yard 1 ^000002", 1);
        yardFault("yard ^100000 2", 1);
        yard("yard 00001 00002", 0);
        yardFault("yard 1 2 ^000002", 0);
        yardFault("yard 1 9;grave 0 8 plain;grave 0 ^8 child", 1);
        yardFault("yard 1 9;root 0 8 1;root 0 ^8 1", 1);
        yard("yard 1 9;root 0 8 1;grave 0 8 plain", 1);
        yard("yard 1 9;grave 0 8 plain;root 0 8 1", 1);
        yardFault(Scene.rowOf(3, "plain") + ";pair 1 2;pair 0 ^1", 1);
        yardFault(Scene.rowOf(3, "plain") + ";pair 1 2;pair ^2 0", 1);
        yardFault(Scene.rowOf(3, "plain") + ";pair 1 ^1", 1);
        yardFault("yard 1 9;flood 3;flood ^3", 1);

        e.says(5, "2 too deep (at the sign that opens, or the word not)");
        ruleFault("go 1 if " + "[".repeat(10) + "  ^[", 2);
        ruleFault("go 1 if " + "[".repeat(10) + "  ^not", 2);
        ruleFault("go 1 if " + "[".repeat(10) + "^nots", 0);

        e.says(5, "3 one VALUE or FACT too many (at its first byte; of a FACT at its SIGN)");
        ruleFault("go 1" + "+1".repeat(59) + "-  ^99999", 3);
        ruleFault("go 1" + "+1".repeat(58) + " if 1 ^<= 2", 3);

        e.says(4, "4 one CLAUSE too many, a second yard, another CLAUSE ahead of it, an 11th GRAVE, a seventh ROOT"
                + " or FLOOD (at its first byte).");
        yardFault("yard 1 20;grave 0 19 plain" + ";heavy 0".repeat(38) + ";   ^heavy 0", 4);
        yardFault("yard 1 2;  ^yard 1 2", 4);
        yardFault("  ^heavy 0;yard 1 2", 4);
        yardFault(Scene.rowOf(10, "child") + ";  ^grave 0 0 child", 4);
        String roots = "yard 2 20;root 0 0 1;root 1 0 1;root 0 2 1;root 1 2 1;root 0 1 1;root 1 1 1";
        yardFault(roots + ";  ^root 0 0 1", 4);
        String floods = "yard 2 20;flood 1;flood 2;flood 3;flood 4;flood 5;flood 6";
        yardFault(floods + ";  ^flood 1", 4);
        yard(Scene.rowOf(10, "child") + roots.substring(9) + floods.substring(9), 10);

        e.says(5, "Of one place the least.");
        ruleFault("go 1 ^1234567", 0);
        ruleFault("go 1" + "+1".repeat(59) + "+^000001", 1);
        ruleFault("go 1" + "+1".repeat(59) + "+^food", 0);
        ruleFault("go 1" + "+1".repeat(59) + "+^", 0);
        ruleFault("go 1" + ";go 1".repeat(11) + ";^went 1", 0);
        yardFault(Scene.rowOf(10, "child") + ";^graves 0 0 child", 0);
        yardFault("yard 1 2;flood 7;flood ^000007", 1);
    }

    // ---- promise 6

    private void force() {
        e.says(6, "A RULE is IN FORCE (NONE: none): which was");
        GraveRails x = Scene.of("yard 1 20;grave 0 19 plain");
        for (int i = 0; i < 6; i++) {
            Checks.tellRule(x, "go " + (3 + i));
        }
        e.due("0", x.force(0), -1);
        e.due("count", x.count(4), 0);
        e.due("by it", x.ahead(0, 1, 1), 16);
        e.due("5", x.force(5), 0);
        e.due("by it", x.ahead(0, 1, 1), 11);
        e.due("5 again", x.force(5), 5);
        e.due("none", x.force(-1), 5);
        e.due("count", x.count(4), -1);
        e.due("by none", x.ahead(0, 1, 1), 18);
        e.due("none again", x.force(-1), -1);
        e.says(6, "-2, and nothing happens, if there is none such.");
        List<Integer> without = List.of(2, 3, 5, 6, -2, -3, LEAST, MOST);
        for (int rule : without) {
            e.leavesAll("force " + rule, y -> y.force(rule), -2);
        }
        e.due("the last one", Scene.rich().force(1), 1);
        e.leavesAll("a seventh", () -> sixRules("go 1"), y -> y.force(6), -2);
        e.due("the sixth", sixRules("go 1").force(5), 2);
        e.due("0 of none", new GraveRails().force(0), -2);
    }
}
