import java.util.function.Consumer;

/** Promises 7 to 15: who lies where, YEARS, and the other ACTS. */
final class YearEdges {
    private static final int LEAST = Integer.MIN_VALUE;
    private static final int MOST = Integer.MAX_VALUE;

    private final Edges e;

    YearEdges(Edges e) {
        this.e = e;
    }

    void all() {
        graveWhat();
        graveHeld();
        graveWithout();
        stone();
        stoneGoes();
        at();
        root();
        floods();
        turns();
        stepsByKind();
        stepsByRule();
        noStep();
        steps();
        rounds();
        roots();
        year();
        dig();
        pay();
        frost();
        frostHolds();
        undo();
        undoEach();
    }

    private void place(String when, GraveRails x, int grave, int lane, int cell) {
        e.due(when + ": LANE of " + grave, x.grave(grave, 0), lane);
        e.due(when + ": CELL of " + grave, x.grave(grave, 1), cell);
    }

    /** In LANE 0 for as many YEARS: its CELL as each one ends. */
    private void cells(String when, GraveRails x, int grave, int... cells) {
        for (int i = 0; i < cells.length; i++) {
            x.year();
            e.due(when + ", YEAR " + i, x.grave(grave, 1), cells[i]);
        }
    }

    // ---- promises 7 to 10

    private void graveWhat() {
        GraveRails x = Scene.of("yard 2 9;grave 1 1 plain;grave 0 8 child");
        e.says(7, "what 0: LANE (NONE: fallen), 1: CELL (NONE)");
        place("at first", x, 0, 1, 1);
        x.year();
        place("in CELL 0", x, 0, 1, 0);
        x.year();
        place("fallen", x, 0, -1, -1);
        place("not fallen", x, 1, 0, 4);

        e.says(7, "4: the YEAR in which it fell (NONE)");
        e.due("in YEAR 1", x.grave(0, 4), 1);
        e.due("not yet", x.grave(1, 4), -1);
        Scene.pass(x, 2);
        e.due("not in CELL 0", x.grave(1, 4), -1);
        x.year();
        e.due("in YEAR 4", x.grave(1, 4), 4);
        e.due("in YEAR 1 still", x.grave(0, 4), 1);
        e.due("in YEAR 0", Scene.pass(Scene.of("yard 1 2;grave 0 0 plain"), 1).grave(0, 4), 0);

        e.says(7, "2: KIND (0 plain, 1 child, 2 unpaid, 3 stands)");
        x = Scene.of("yard 4 9;grave 0 8 stands;grave 1 8 unpaid;grave 2 8 child;grave 3 0 plain");
        for (int g = 0; g < 4; g++) {
            e.due("told", x.grave(g, 2), 3 - g);
            e.due("dug", x.grave(x.dig(g, 4, g), 2), g);
        }
        x.year();
        e.due("fallen", x.grave(3, 2), 0);

        e.says(7, "5: the YEAR in which it was dug");
        e.due("told", x.grave(0, 5), 0);
        e.due("dug in YEAR 0", x.grave(4, 5), 0);
        e.due("dug in YEAR 1", x.grave(x.dig(3, 8, 0), 5), 1);
        Scene.pass(x, 3);
        e.due("dug in YEAR 4", x.grave(x.dig(3, 8, 0), 5), 4);
        e.due("in YEAR 1 still", x.grave(8, 5), 1);

        e.says(7, "6: the other one of its pair (NONE)");
        x = Scene.of("yard 2 9;grave 0 0 plain;grave 1 4 plain;grave 0 8 child;grave 1 0 stands;pair 2 0;flood 0");
        e.due("the second one told", x.grave(2, 6), 0);
        e.due("the first one", x.grave(0, 6), 2);
        e.due("none", x.grave(1, 6), -1);
        x.year();
        e.due("that fell", x.grave(2, 6), 0);
        e.due("fallen itself", x.grave(0, 6), 2);
        e.due("dug", x.grave(x.dig(0, 8, 0), 6), -1);

        e.says(7, "7: how often it went ROUND");
        x = Scene.of("yard 2 9;grave 0 4 stands;grave 1 3 stands;grave 0 5 unpaid;grave 0 8 plain");
        e.due("never", x.grave(2, 7), 0);
        x.year();
        e.due("twice in one YEAR", x.grave(2, 7), 2);
        place("into LANE 1, and back", x, 2, 0, 3);
        e.due("who stands never", x.grave(0, 7), 0);
        e.due("another never", x.grave(3, 7), 0);
        Scene.pass(x, 2);
        e.due("fallen", x.grave(2, 4), 2);
        e.due("fallen: twice still", x.grave(2, 7), 2);
        e.due("of all", x.count(12), 2);
    }

    private void graveHeld() {
        e.says(7, "3: YEARS it is held still");
        GraveRails x = Scene.of("yard 1 9;grave 0 5 plain;root 0 4 9");
        e.due("not held", x.grave(0, 3), 0);
        for (int i = 9; i >= 0; i--) {
            x.year();
            e.due("after YEAR " + (9 - i), x.grave(0, 3), i);
            e.due("its bit", x.count(7), i > 0 ? 1 : 0);
        }
        x = Scene.of("yard 1 9;grave 0 2 plain;root 0 1 9;flood 1");
        x.year();
        e.due("held", x.grave(0, 3), 9);
        x.year();
        e.due("who fell is held no more", x.grave(0, 3), 0);
        e.due("who fell is held no more", x.count(7), 0);
    }

    private void graveWithout() {
        e.says(7, "-2 without these.");
        int last = 4;
        e.due("the last GRAVE", Scene.rich().grave(last, 0), 1);
        for (int g : new int[] {-1, last + 1, 9, 10, 11, LEAST, MOST}) {
            e.leavesAll("GRAVE " + g, y -> y.grave(g, 0), -2);
            e.leavesAll("STONE of " + g, y -> y.stone(g, 0), -2);
        }
        for (int what : new int[] {-1, 8, LEAST, MOST}) {
            e.leavesAll("what " + what, y -> y.grave(0, what), -2);
        }
        e.due("what 7", Scene.rich().grave(0, 7), 0);
        e.due("none told: 0", Scene.of("yard 1 2").grave(0, 0), -2);
        e.due("ten: 9", Scene.of(Scene.rowOf(10, "plain")).grave(9, 1), 9);
        e.due("ten: 10", Scene.of(Scene.rowOf(10, "plain")).grave(10, 1), -2);
    }

    private void stone() {
        e.says(8, "Of the STONE of a GRAVE what 0: LANE, 1: CELL (both NONE: gone)");
        GraveRails x = Scene.of("yard 2 9;grave 1 1 plain;grave 1 8 stands");
        e.due("LANE", x.stone(0, 0), 1);
        e.due("CELL", x.stone(0, 1), 1);
        x.year();
        e.due("LANE, in CELL 0", x.stone(0, 0), 1);
        e.due("CELL 0", x.stone(0, 1), 0);
        x.year();
        e.due("LANE, gone", x.stone(0, 0), -1);
        e.due("CELL, gone", x.stone(0, 1), -1);
        x.year();
        e.due("CELL, gone since", x.stone(0, 1), -1);
        x = Scene.of("yard 2 9;grave 1 8 plain;grave 1 7 stands");
        x.year();
        place("ROUND", x, 0, 0, 7);
        e.due("its STONE stays in its LANE", x.stone(0, 0), 1);
        e.due("its STONE's CELL", x.stone(0, 1), 7);

        e.says(8, "2: 1 if heavy, else 0");
        x = Scene.of("yard 2 9;grave 1 0 plain;grave 1 8 stands;heavy 0");
        e.due("heavy", x.stone(0, 2), 1);
        e.due("not", x.stone(1, 2), 0);
        x.year();
        e.due("gone", x.stone(0, 1), -1);
        e.due("heavy still", x.stone(0, 2), 1);
        e.due("dug", x.stone(x.dig(0, 0, 0), 2), 0);

        e.says(8, "3: the GRAVE that lies where it is (NONE). -2 without these.");
        e.due("gone", x.stone(0, 3), -1);
        e.due("its own", x.stone(1, 3), 1);
        x = Scene.of("yard 2 9;grave 0 8 child;grave 0 7 stands;grave 1 5 child");
        x.year();
        place("ROUND", x, 0, 1, 6);
        e.due("another one", x.stone(0, 3), 1);
        e.due("none", x.stone(2, 3), -1);
        x.dig(1, 4, 0);
        e.due("another one, dug", x.stone(2, 3), 3);
        for (int what : new int[] {-1, 4, LEAST, MOST}) {
            e.leavesAll("what " + what, y -> y.stone(0, what), -2);
        }
    }

    private void stoneGoes() {
        e.says(8, "(3) Each STONE goes a CELL toward the sea, if its GRAVE fell, or is nearer the sea than it;"
                + " a heavy one in even YEARS only; from CELL 0 it is gone.");
        GraveRails x = Scene.of("yard 3 9;grave 0 8 child;grave 1 8 child;grave 2 8 stands;heavy 1", "go 3 if year=0;go 0");
        int[] light = {7, 6, 5, 5, 5, 5, 5};
        int[] heavy = {7, 7, 6, 6, 5, 5, 5};
        for (int i = 0; i < light.length; i++) {
            x.year();
            e.due("after YEAR " + i, x.stone(0, 1), light[i]);
            e.due("heavy, after YEAR " + i, x.stone(1, 1), heavy[i]);
            e.due("of one that stands, after YEAR " + i, x.stone(2, 1), 8);
        }
        x = Scene.of("yard 3 9;grave 0 3 plain;grave 1 3 plain;heavy 1", "go 9");
        light = new int[] {2, 1, 0, -1, -1, -1, -1, -1};
        heavy = new int[] {2, 2, 1, 1, 0, 0, -1, -1};
        for (int i = 0; i < light.length; i++) {
            x.year();
            e.due("fell in 0, after YEAR " + i, x.stone(0, 1), light[i]);
            e.due("heavy, fell in 0, after YEAR " + i, x.stone(1, 1), heavy[i]);
            e.due("its LANE", x.stone(1, 0), heavy[i] < 0 ? -1 : 1);
        }
        // in an odd YEAR; by another LANE than the first
        x = Scene.of("yard 3 9;grave 2 0 plain;grave 1 0 plain;heavy 1", "go year");
        x.year();
        e.due("its GRAVE is there", x.stone(0, 1), 0);
        e.due("heavy, its GRAVE is there", x.stone(1, 1), 0);
        e.due("both fall in YEAR 1", x.year(), 2);
        e.due("gone in YEAR 1", x.stone(0, 1), -1);
        e.due("heavy, not in YEAR 1", x.stone(1, 1), 0);
        x.year();
        e.due("heavy, gone in YEAR 2", x.stone(1, 1), -1);
    }

    private void at() {
        e.says(9, "The GRAVE in a CELL of a LANE (NONE); -2 without these.");
        GraveRails x = Scene.of("yard 4 20;grave 0 0 plain;grave 3 19 child;grave 2 7 stands");
        e.due("the first place", x.at(0, 0), 0);
        e.due("the last place", x.at(3, 19), 1);
        e.due("none", x.at(0, 19), -1);
        e.due("none", x.at(3, 0), -1);
        x.year();
        e.due("fallen", x.at(0, 0), -1);
        e.due("gone on", x.at(3, 17), 1);
        e.due("gone from there", x.at(3, 19), -1);
        e.due("LANE 4", x.at(4, 0), -2);
        e.due("CELL 20", x.at(0, 20), -2);
        int[][] without = {{-1, 0}, {2, 0}, {0, -1}, {0, 6}, {-1, -1}, {2, 6}, {LEAST, 0}, {MOST, 0}, {0, LEAST}, {0, MOST}};
        for (int[] n : without) {
            e.leavesAll("at " + n[0] + " " + n[1], y -> y.at(n[0], n[1]), -2);
        }
        e.leavesAll("the last LANE and CELL", y -> y.at(1, 5), 4);
        e.due("without a YARD", new GraveRails().at(0, 0), -2);
    }

    private void root() {
        e.says(10, "YEARS for which a ROOT holds (0: there is none); NONE without that place.");
        GraveRails x = Scene.of("yard 4 20;root 0 0 1;root 3 19 9;root 0 19 4;grave 0 1 plain");
        e.due("1", x.root(0, 0), 1);
        e.due("9", x.root(3, 19), 9);
        e.due("4", x.root(0, 19), 4);
        e.due("none", x.root(3, 0), 0);
        e.due("none beside it", x.root(0, 1), 0);
        x.year();
        e.due("who is held there changes nothing", x.root(0, 0), 1);
        e.due("LANE 4", x.root(4, 0), -1);
        e.due("CELL 20", x.root(0, 20), -1);
        int[][] without = {{-1, 0}, {2, 0}, {0, -1}, {0, 6}, {-1, -1}, {LEAST, 0}, {MOST, 0}, {0, LEAST}, {0, MOST}};
        for (int[] n : without) {
            e.leavesAll("root " + n[0] + " " + n[1], y -> y.root(n[0], n[1]), -1);
        }
        e.due("the last LANE and CELL", Scene.rich().root(1, 5), 0);
        e.due("without a YARD", new GraveRails().root(0, 0), -1);
    }

    // ---- promise 11

    private void floods() {
        e.says(11, "(1) in a YEAR of FLOOD all GRAVES in CELLS 0 and 1 fall (in the order of (2)).");
        String yard = "yard 4 9;grave 0 0 stands;grave 3 1 child;grave 2 2 plain;grave 1 1 unpaid;grave 3 0 plain;"
                + "root 2 1 9;pair 2 4;";
        GraveRails x = Scene.of(yard + "flood 0;flood 3");
        int[] order = {0, 4, 3, 1, 2};
        for (int k = 0; k < order.length; k++) {
            e.due("order " + k, x.order(k), order[k]);
        }
        e.due("four in CELLS 0 and 1", x.year(), 4);
        place("who was in 2 goes, and not into the sea", x, 2, 2, 1);
        e.due("it is held", x.grave(2, 3), 9);
        e.due("no FLOOD in 1", x.year(), 0);
        e.due("no FLOOD in 2", x.year(), 0);
        place("in 1 still", x, 2, 2, 1);
        e.due("held ones fall", x.year(), 1);
        e.due("in YEAR 3", x.grave(2, 4), 3);
        // by the flood those fall that would not go
        x = Scene.of(yard + "flood 1");
        e.due("YEAR 0 without FLOOD: 3 falls, 4 waits for 2, and 1 is behind it", x.year(), 1);
        e.due("YEAR 1: who stands, who waits, who is behind it, who is held", x.year(), 4);
        // no one goes in (2) who fell in (1); STEPS go on where they were
        x = Scene.of("yard 1 9;grave 0 1 plain;grave 0 2 plain;grave 0 3 plain;flood 0");
        e.due("one", x.year(), 1);
        place("goes where that lay", x, 1, 0, 1);
        place("goes behind it", x, 2, 0, 2);
    }

    private void turns() {
        e.says(11, "(2) GRAVES, nearest the sea first (of one CELL the least LANE first, by where they are ahead of (2)), go");
        GraveRails x = Scene.of("yard 1 9;grave 0 3 plain;grave 0 2 plain;grave 0 4 plain");
        x.year();
        place("nearest first", x, 1, 0, 1);
        place("then the next", x, 0, 0, 2);
        place("then the last", x, 2, 0, 3);
        // each would go to 0 4: the one of LANE 0 straight, that of LANE 1 ROUND one that stands
        x = Scene.of("yard 3 9;grave 1 4 stands;grave 1 5 plain;grave 0 5 plain");
        x.year();
        place("of one CELL the least LANE", x, 2, 0, 4);
        place("then LANE 1", x, 1, 2, 4);
        // the nearer one of the greater LANE first
        x = Scene.of("yard 3 9;grave 1 3 stands;grave 1 4 plain;grave 0 5 child");
        x.year();
        place("the nearer one", x, 1, 0, 3);
        place("the farther one, of a lesser LANE", x, 2, 0, 4);
        int[] order = {2, 1, 0};
        for (int k = 0; k < 3; k++) {
            GraveRails y = Scene.of("yard 4 9;grave 1 1 child;grave 0 1 child;grave 3 0 plain");
            e.due("the nearest of the last LANE, then by LANES: " + k, y.order(k), order[k]);
        }
        // ahead of (2), not of (1): the flood takes those who were in the way
        x = Scene.of("yard 1 9;grave 0 1 stands;grave 0 2 child;flood 0");
        x.year();
        place("the one that stood is gone", x, 1, 0, 0);
    }

    private void stepsByKind() {
        e.says(11, "without a RULE IN FORCE a child 2, others 1, an unpaid one 1 more;");
        GraveRails x = Scene.of("yard 4 9;grave 0 8 plain;grave 1 8 child;grave 2 8 unpaid;grave 3 8 stands");
        x.year();
        place("plain", x, 0, 0, 7);
        place("child", x, 1, 1, 6);
        place("unpaid", x, 2, 2, 6);
        place("stands", x, 3, 3, 8);
        x.force(Checks.tellRule(x, "go 4"));
        x.force(-1);
        x.year();
        place("plain, the RULE not IN FORCE any more", x, 0, 0, 6);
        place("child", x, 1, 1, 4);
        place("unpaid", x, 2, 2, 4);
        x.pay(2);
        x.year();
        place("paid: plain", x, 2, 2, 3);
    }

    private void stepsByRule() {
        e.says(11, "with one the SUM of its first CLAUSE without a TEST, or whose TEST holds (0 without), held to 0 to 9");
        goes("go 3;go 4", 3);
        goes("go 3 if 1<1;go 4;go 5", 4);
        goes("go 3 if 1<2;go 4", 3);
        goes("go 3 if 1<1;go 4 if 1<2;go 5 if 1<2", 4);
        goes("go 3 if 1<1;go 4 if 2<2", 0);
        goes("go 3 if 1<1", 0);
        goes("go 0-1", 0);
        goes("go 0-99999", 0);
        goes("go 0", 0);
        goes("go 1", 1);
        goes("go 8", 8);
        goes("go 9", 9);
        goes("go 10", 9);
        goes("go 99999*99999", 9);
        // 2 to the 32nd, and what is -1 of 32 bits
        goes("go 65536*65536", 9);
        goes("go 65536*65536-1", 9);
        goes("go 0-65536*65536+3", 0);
        goes("go 65536*65536*65536*32768", 0);
        goes("go 65536*65536*65536*32768-1", 9);
        // KINDS are nothing then
        GraveRails x = Scene.of("yard 4 9;grave 0 8 plain;grave 1 8 child;grave 2 8 unpaid;grave 3 8 stands", "go 3");
        x.year();
        place("plain", x, 0, 0, 5);
        place("child", x, 1, 1, 5);
        place("unpaid", x, 2, 2, 5);
        place("who stands goes no STEP", x, 3, 3, 8);

        e.says(11, "(asked when it is that GRAVE's turn)");
        x = Scene.of("yard 2 9;grave 0 4 plain;grave 0 5 plain;grave 0 6 plain", "go 2-ahead-behind");
        x.year();
        place("two behind it", x, 0, 0, 4);
        place("one ahead, one behind", x, 1, 0, 5);
        place("one ahead", x, 2, 0, 6);
        x = Scene.of("yard 2 9;grave 0 4 plain;grave 0 5 plain", "go 2 if ahead=0;go 0");
        x.year();
        place("none ahead", x, 0, 0, 2);
        place("none any more", x, 1, 0, 3);
        x = Scene.of("yard 2 9;grave 0 0 plain;grave 1 8 plain", "go 1+fallen*2");
        x.year();
        place("one fell by then", x, 1, 1, 5);
    }

    private void goes(String rule, int steps) {
        GraveRails x = Scene.of("yard 3 20;grave 2 19 plain", rule);
        x.year();
        e.due("STEPS by \"" + rule + "\"", 19 - x.grave(0, 1), steps);
    }

    private void noStep() {
        e.says(11, "No STEP goes: who stands;");
        GraveRails x = Scene.of("yard 2 9;grave 0 0 stands;grave 1 8 stands", "go 9");
        Scene.pass(x, 20);
        place("in CELL 0", x, 0, 0, 0);
        place("in the last CELL", x, 1, 1, 8);

        e.says(11, "whom a ROOT holds (it is held one YEAR less then);");
        x = Scene.of("yard 1 9;grave 0 5 plain;root 0 4 1");
        cells("a ROOT of 1", x, 0, 4, 4, 3, 2);
        x = Scene.of("yard 1 9;grave 0 5 plain;root 0 4 3");
        cells("a ROOT of 3", x, 0, 4, 4, 4, 4, 3);
        x = Scene.of("yard 1 9;grave 0 5 plain;root 0 4 2", "go 9 if year>0;go 1");
        x.year();
        e.due("held", x.grave(0, 3), 2);
        Scene.pass(x, 2);
        place("whatever the RULE says", x, 0, 0, 4);
        e.due("then it falls", x.year(), 1);
        // its YEARS go also where it would not go anyway
        x = Scene.of("yard 2 9;grave 0 4 plain;grave 1 8 stands;grave 1 4 plain;pair 0 2;root 0 3 2");
        cells("abreast: by the ROOT, then waiting for none", x, 0, 3, 3, 3, 2);
        x = Scene.of("yard 1 9;grave 0 5 plain;root 0 4 2", "go 1 if year=0;go 0");
        Scene.pass(x, 2);
        e.due("by a RULE of 0", x.grave(0, 3), 1);

        e.says(11, "who is of a pair and nearer the sea than the other one, that has not fallen (by where they are as its turn begins)");
        x = Scene.of("yard 2 9;grave 0 3 plain;grave 1 5 plain;pair 1 0");
        cells("nearer by 2, by 1, abreast", x, 0, 3, 3, 2, 1);
        x = Scene.of("yard 2 9;grave 0 3 plain;grave 1 5 plain;pair 1 0");
        cells("the farther one", x, 1, 4, 3, 2, 1);
        x = Scene.of("yard 2 9;grave 0 6 child;grave 1 6 child;pair 0 1");
        x.year();
        place("as its turn begins: both STEPS", x, 0, 0, 4);
        place("the other one then", x, 1, 1, 4);
        x = Scene.of("yard 2 9;grave 0 3 plain;grave 1 8 stands;pair 0 1");
        Scene.pass(x, 20);
        place("for ever", x, 0, 0, 3);
        x = Scene.of("yard 2 9;grave 0 3 plain;grave 1 1 stands;pair 0 1;flood 1");
        cells("farther, then alone", x, 0, 2, 1, 0);
        x = Scene.of("yard 2 9;grave 0 0 plain;grave 1 0 plain;pair 0 1");
        e.due("in CELL 0 abreast: the first falls, then the other one", x.year(), 2);
        x = Scene.of("yard 2 9;grave 0 1 plain;grave 1 8 plain;pair 0 1;flood 0");
        x.year();
        x.year();
        place("the nearer one fell", x, 1, 1, 6);
        // who fell is nearer than none: the other one goes on
        x = Scene.of("yard 1 9;grave 0 2 plain;grave 0 5 plain;pair 0 1");
        cells("of one LANE", x, 0, 2, 2, 2, 2);
        place("behind it", x, 1, 0, 3);
    }

    private void steps() {
        e.says(11, "A STEP is to the next CELL toward the sea in its LANE, from CELL 0 into the sea: it falls in that YEAR.");
        GraveRails x = Scene.of("yard 2 9;grave 1 2 plain");
        cells("to CELL 0", x, 0, 1, 0);
        e.due("not fallen", x.count(6), 0);
        e.due("into the sea", x.year(), 1);
        e.due("in YEAR 2", x.grave(0, 4), 2);
        x = Scene.of("yard 2 9;grave 0 1 child;grave 1 2 child");
        e.due("with two STEPS", x.year(), 1);
        place("one CELL more", x, 1, 1, 0);
        x = Scene.of("yard 2 20;grave 0 8 plain;grave 1 9 plain", "go 9");
        e.due("with nine STEPS", x.year(), 1);
        place("nine CELLS", x, 1, 1, 0);
        e.due("once, with STEPS over", x.year(), 1);
        e.due("of all", x.count(6), 2);

        e.says(11, "If a GRAVE lies there, it goes no further that YEAR, but if that one stands");
        x = Scene.of("yard 2 9;grave 0 3 plain;grave 1 8 stands;pair 0 1;grave 0 6 child");
        cells("behind one that waits", x, 2, 4, 4, 4);
        x = Scene.of("yard 2 9;grave 0 3 plain;grave 0 8 plain", "go 0 if grave=0;go 9");
        x.year();
        place("nine STEPS, but one lies there", x, 1, 0, 4);
        e.due("not ROUND", x.count(12), 0);
        x = Scene.of("yard 1 9;grave 0 3 plain;grave 0 4 child");
        cells("behind one that goes by one", x, 1, 3, 2, 1);
    }

    private void rounds() {
        e.says(11, "then ROUND it, to that CELL in the LANE one less, else one more, where there is that LANE and none lies there (else no further).");
        String yard = "yard 3 9;grave 1 4 stands;grave 1 5 plain";
        round("one less", yard, 0, 4, 1);
        round("one more", yard + ";grave 0 4 stands", 2, 4, 1);
        round("both are taken", yard + ";grave 0 4 stands;grave 2 4 stands", 1, 5, 0);
        round("there is no LANE less", "yard 3 9;grave 0 4 stands;grave 0 5 plain", 1, 4, 1);
        round("no LANE less, one more is taken", "yard 3 9;grave 0 4 stands;grave 0 5 plain;grave 1 4 stands", 0, 5, 0);
        round("not two more", "yard 3 9;grave 0 4 stands;grave 0 5 plain;grave 1 4 stands;grave 1 5 stands", 0, 5, 0);
        round("there is no LANE more", "yard 3 9;grave 2 4 stands;grave 2 5 plain;grave 1 4 stands", 2, 5, 0);
        round("the last LANE", "yard 3 9;grave 2 4 stands;grave 2 5 plain", 1, 4, 1);
        round("one LANE", "yard 1 9;grave 0 4 stands;grave 0 5 plain", 0, 5, 0);
        round("two LANES", "yard 2 9;grave 0 4 stands;grave 0 5 plain", 1, 4, 1);
        round("a free LANE that was taken as the YEAR began", "yard 2 9;grave 0 4 stands;grave 0 5 plain;grave 1 4 plain", 1, 4, 1);
        round("into CELL 0", "yard 2 9;grave 0 0 stands;grave 0 1 plain", 1, 0, 1);
        round("and further with the STEPS that are over", "yard 2 9;grave 0 4 stands;grave 0 5 child", 1, 3, 1);
        round("into CELL 0 and the sea", "yard 2 9;grave 0 0 stands;grave 0 1 child", -1, -1, 1);
        round("no further with a STEP over", "yard 1 9;grave 0 4 stands;grave 0 5 child", 0, 5, 0);
        round("no further, behind who is there then", "yard 2 9;grave 0 4 stands;grave 0 5 child;grave 1 3 stands;grave 0 3 stands", 1, 4, 1);
        round("who does not stand is not gone ROUND", "yard 2 9;grave 0 4 plain;grave 0 5 plain;grave 1 8 stands;pair 0 2", 0, 5, 0);
    }

    /** GRAVE 1 after a YEAR. */
    private void round(String when, String yard, int lane, int cell, int times) {
        GraveRails x = Scene.of(yard);
        x.year();
        place(when, x, 1, lane, cell);
        e.due(when + ": times", x.grave(1, 7), times);
        e.due(when + ": times of all", x.count(12), times);
    }

    private void roots() {
        e.says(11, "Who comes into a CELL with a ROOT is held for its YEARS, and goes no further that YEAR (who was told or dug there is not held).");
        GraveRails x = Scene.of("yard 1 9;grave 0 6 child;root 0 5 1");
        cells("no further that YEAR", x, 0, 5, 5, 3);
        x = Scene.of("yard 1 9;grave 0 6 plain;root 0 5 9");
        cells("nine YEARS", x, 0, 5, 5, 5, 5, 5, 5, 5, 5, 5, 5, 4);
        x = Scene.of("yard 1 9;grave 0 6 child;root 0 4 2");
        cells("by its second STEP", x, 0, 4, 4, 4, 2);
        x = Scene.of("yard 1 9;grave 0 6 plain;root 0 6 9");
        e.due("told there", x.grave(0, 3), 0);
        cells("told there", x, 0, 5, 4);
        x = Scene.of("yard 1 9;root 0 6 9");
        x.dig(0, 6, 0);
        e.due("dug there", x.grave(0, 3), 0);
        cells("dug there", x, 0, 5, 4);
        x = Scene.of("yard 2 9;grave 0 4 stands;root 1 4 2;grave 0 5 child");
        cells("ROUND", x, 1, 4, 4, 4, 2);
        x = Scene.of("yard 1 9;grave 0 1 plain;root 0 0 2");
        cells("in CELL 0", x, 0, 0, 0, 0, -1);
        x = Scene.of("yard 1 9;grave 0 6 plain;root 0 5 1;root 0 4 1");
        cells("one behind another", x, 0, 5, 5, 4, 4, 3);
        x = Scene.of("yard 1 9;grave 0 6 plain;grave 0 7 child;root 0 5 1");
        cells("each one who comes", x, 1, 6, 6, 5, 5, 3);
    }

    private void year() {
        e.says(11, "A YEAR: how many fell in it; NONE, and nothing happens, without a YARD, or at YEAR 999.");
        GraveRails x = Scene.of("yard 4 9;grave 0 0 plain;grave 1 1 child;grave 2 1 plain;grave 3 3 plain;flood 2");
        e.due("two", x.year(), 2);
        e.due("one", x.year(), 1);
        e.due("by the flood", x.year(), 1);
        e.due("none", x.year(), 0);
        e.due("an ACT each", x.count(9), 4);
        e.due("a YARD of none", Scene.of("yard 1 2").year(), 0);
        e.leavesAll("without a YARD", GraveRails::new, y -> y.year(), -1);
        GraveRails z = new GraveRails();
        Checks.tellYard(z, "yard 1");
        e.due("after a FAULT", z.year(), -1);
        // a YEAR a call: 999 is beyond the 512 calls of an object, and stands nevertheless
        e.leavesAll("at YEAR 999", YearEdges::inYear999, y -> y.year(), -1);
        GraveRails last = inYear999();
        last.undo();
        e.due("YEAR 998", last.count(5), 998);
        e.due("a YEAR at 998", last.year(), 0);

        e.says(11, "YEAR is 1 more (999 at most; what is to come goes on above 999).");
        x = Scene.of("yard 1 9");
        e.due("0", x.count(5), 0);
        x.year();
        e.due("1", x.count(5), 1);
        last = inYear999();
        e.due("999", last.count(5), 999);
        e.due("a GRAVE dug in 999", last.grave(last.dig(0, 5, 0), 5), 999);
        e.due("falls in 1004", last.fall(1), 1004);
        e.due("ahead", last.ahead(1, 5, 1), 0);
        e.due("ahead", last.ahead(1, 6, 1), -1);
        e.due("order", last.order(0), 1);
        last.dig(1, 6, 1);
        e.due("abreast", last.abreast(1, 2), 1000);
        e.due("war", last.war(50), 50);
    }

    /** One that stands in the last CELL of LANE 1, nothing else, since YEAR 0. */
    private static GraveRails inYear999() {
        return Scene.pass(Scene.of("yard 2 9;grave 1 8 stands"), 999);
    }

    // ---- promises 12 to 15

    private void dig() {
        e.says(12, "DIG: the number of the GRAVE; NONE, and nothing happens, without these (KIND 0 to 3, none lies there), or if there are 10.");
        int[][] without = {{0, 3, 0}, {1, 5, 0}, {1, 1, 0}, {-1, 0, 0}, {2, 0, 0}, {0, -1, 0}, {0, 6, 0}, {0, 0, -1}, {0, 0, 4},
            {LEAST, 0, 0}, {MOST, 0, 0}, {0, LEAST, 0}, {0, MOST, 0}, {0, 0, LEAST}, {0, 0, MOST}};
        for (int[] n : without) {
            e.leavesAll("dig " + n[0] + " " + n[1] + " " + n[2], y -> y.dig(n[0], n[1], n[2]), -1);
        }
        for (int kind = 0; kind < 4; kind++) {
            GraveRails x = Scene.rich();
            e.due("KIND " + kind, x.dig(0, 0, kind), 5);
            e.due("its KIND", x.grave(5, 2), kind);
            e.due("an ACT", x.count(9), 4);
        }
        e.due("the last LANE and CELL", Scene.of("yard 2 6").dig(1, 5, 0), 0);
        e.leavesAll("without a YARD", GraveRails::new, y -> y.dig(0, 0, 0), -1);
        e.leavesAll("ten that were told", () -> Scene.of(Scene.rowOf(10, "plain")), y -> y.dig(1, 0, 0), -1);
        e.leavesAll("nine, and one dug", YearEdges::nineAndOne, y -> y.dig(1, 1, 0), -1);
        e.leavesAll("ten, two of them fallen", () -> Scene.pass(nineAndOne(), 1), y -> y.dig(1, 9, 0), -1);
        GraveRails x = Scene.of("yard 2 9;grave 0 5 plain;grave 0 0 plain");
        x.year();
        e.due("where one lay before", x.dig(0, 5, 0), 2);
        e.due("where one has fallen", x.dig(0, 0, 0), 3);
        x.undo();
        e.due("a number that is free again", x.dig(1, 1, 1), 3);

        e.says(12, "DIG (a plain GRAVE or another KIND in a CELL where none lies; 10 are dug at most"
                + " (there are 10 GRAVES at most, those told, too), its STONE there, YEAR is its YEAR)");
        x = Scene.of("yard 2 9");
        for (int i = 0; i < 10; i++) {
            e.due("dig", x.dig(i / 9, i % 9, 3), i);
            place("dug", x, i, i / 9, i % 9);
            e.due("its STONE's LANE", x.stone(i, 0), i / 9);
            e.due("its STONE's CELL", x.stone(i, 1), i % 9);
            e.due("not held", x.grave(i, 3), 0);
        }
        e.due("an eleventh", x.dig(1, 8, 3), -1);
        e.due("ten", x.count(2), 10);
        e.due("a tenth beside nine that were told", Scene.of(Scene.rowOf(9, "plain")).dig(1, 0, 0), 9);
        x = Scene.pass(Scene.of("yard 2 9"), 7);
        e.due("in YEAR 7", x.grave(x.dig(0, 0, 0), 5), 7);
    }

    private static GraveRails nineAndOne() {
        GraveRails x = Scene.of(Scene.rowOf(9, "plain"));
        x.dig(1, 0, 1);
        return x;
    }

    private void pay() {
        e.says(13, "PAY: true; false, and nothing happens, without these (unpaid, not fallen).");
        GraveRails x = Scene.of("yard 4 9;grave 0 8 unpaid;grave 1 8 unpaid");
        e.due("pay", x.pay(0), true);
        e.due("plain then", x.grave(0, 2), 0);
        e.due("that one alone", x.grave(1, 2), 2);
        e.due("an ACT", x.count(9), 1);
        e.due("one that was dug", x.pay(x.dig(2, 8, 2)), true);
        e.due("the last", x.grave(2, 2), 0);
        for (int g : new int[] {-1, 5, 9, 10, 11, LEAST, MOST}) {
            e.leavesAll("pay " + g, y -> y.pay(g) ? 1 : 0, 0);
        }
        e.leavesAll("a child", y -> y.pay(1) ? 1 : 0, 0);
        e.leavesAll("a plain one", y -> y.pay(2) ? 1 : 0, 0);
        e.leavesAll("one that stands", y -> y.pay(3) ? 1 : 0, 0);
        e.leavesAll("one that is paid", y -> y.pay(4) ? 1 : 0, 0);
        e.leavesAll("one that fell", () -> Scene.pass(Scene.of("yard 2 6;grave 0 1 unpaid"), 1), y -> y.pay(0) ? 1 : 0, 0);
        e.leavesAll("without a YARD", GraveRails::new, y -> y.pay(0) ? 1 : 0, 0);

        e.says(13, "PAY (an unpaid one is plain then; a child stays a child: KINDS are one each)");
        x = Scene.of("yard 4 9;grave 0 8 unpaid;grave 1 8 child");
        e.due("a child", x.pay(1), false);
        e.due("a child", x.grave(1, 2), 1);
        x.pay(0);
        x.year();
        place("paid", x, 0, 0, 7);
        place("a child", x, 1, 1, 6);
    }

    private void frost() {
        e.says(14, "FROST: how many GRAVES went nearer; NONE, and nothing happens, without that LANE, or if none would.");
        for (int lane : new int[] {-1, 2, 3, 4, LEAST, MOST}) {
            e.leavesAll("LANE " + lane, y -> y.frost(lane), -1);
        }
        e.leavesAll("without a YARD", GraveRails::new, y -> y.frost(0), -1);
        none("none lies there", "yard 2 6;grave 1 5 plain", 0);
        none("all are as near as can be", "yard 1 6;grave 0 0 plain;grave 0 1 child;grave 0 2 unpaid", 0);
        none("behind one that stands", "yard 1 6;grave 0 3 stands;grave 0 4 plain", 0);
        none("one that stands", "yard 1 6;grave 0 3 stands", 0);
        e.leavesAll("who fell", () -> Scene.pass(Scene.of("yard 1 6;grave 0 0 plain"), 1), y -> y.frost(0), -1);
        e.leavesAll("who is held", () -> Scene.pass(Scene.of("yard 1 6;grave 0 4 plain;root 0 3 2"), 1), y -> y.frost(0), -1);
        GraveRails x = Scene.of("yard 4 9;grave 3 1 plain;grave 0 1 plain");
        e.due("the last LANE", x.frost(3), 1);
        e.due("that LANE alone", x.grave(1, 1), 1);
        e.due("the first LANE", x.frost(0), 1);
        e.due("two ACTS", x.count(9), 2);
        e.due("no YEAR", x.count(5), 0);

        e.says(14, "FROST in a LANE: from the sea on each GRAVE that does not stand, and is not held, goes as near the sea as it can"
                + " in its LANE with no other one on the way");
        x = Scene.of("yard 2 12;grave 0 11 unpaid;grave 0 3 plain;grave 0 7 child;grave 1 5 plain");
        e.due("three", x.frost(0), 3);
        place("the nearest", x, 1, 0, 0);
        place("the next", x, 2, 0, 1);
        place("the farthest", x, 0, 0, 2);
        place("of another LANE", x, 3, 1, 5);
        e.due("their STONES stay", x.stone(0, 1), 11);
        x = Scene.of("yard 2 12;grave 0 2 plain;grave 0 5 stands;grave 0 8 plain;grave 0 9 stands;grave 0 10 plain;grave 0 11 plain");
        e.due("two", x.frost(0), 2);
        int[] cells = {0, 5, 6, 9, 10, 11};
        for (int g = 0; g < cells.length; g++) {
            place("with two that stand", x, g, 0, cells[g]);
        }
        x = Scene.of("yard 2 9;grave 0 3 plain;grave 1 8 plain;pair 0 1");
        e.due("a nearer one of a pair", x.frost(0), 1);
        place("a nearer one of a pair", x, 0, 0, 0);
    }

    private void none(String when, String yard, int lane) {
        e.leavesAll(when, () -> Scene.of(yard), y -> y.frost(lane), -1);
    }

    private void frostHolds() {
        e.says(14, "(no ROOT holds it on that way, none falls; in a CELL with a ROOT, where it ends, it is held)");
        GraveRails x = Scene.of("yard 1 12;grave 0 8 plain;root 0 5 3;root 0 1 4;grave 0 11 plain");
        e.due("two", x.frost(0), 2);
        place("over two ROOTS", x, 0, 0, 0);
        e.due("not held", x.grave(0, 3), 0);
        place("into a ROOT", x, 1, 0, 1);
        e.due("held for its YEARS", x.grave(1, 3), 4);
        e.due("as bits", x.count(7), 2);
        e.due("none fell", x.count(6), 0);
        cells("held", x, 1, 1, 1, 1, 1, 0);
        x = Scene.of("yard 1 12;grave 0 8 plain;root 0 0 9");
        x.frost(0);
        e.due("a ROOT in CELL 0", x.grave(0, 3), 9);
        // who is held stays, and is in the way
        x = Scene.of("yard 1 12;grave 0 6 plain;root 0 5 3;grave 0 9 plain");
        x.year();
        e.due("one", x.frost(0), 1);
        place("who is held", x, 0, 0, 5);
        e.due("no longer than it was", x.grave(0, 3), 3);
        place("behind it", x, 1, 0, 6);
        Scene.pass(x, 3);
        e.due("held no more", x.frost(0), 2);
        place("held no more", x, 0, 0, 0);
        x = Scene.pass(Scene.of("yard 1 12;grave 0 6 plain;root 0 5 1"), 1);
        e.due("held for one YEAR", x.frost(0), -1);
        place("held for one YEAR", x, 0, 0, 5);
        // who was told there, or is held no more, did not come: it is not held
        x = Scene.of("yard 1 12;grave 0 0 plain;root 0 0 7;root 0 1 7;grave 0 1 plain;grave 0 9 plain");
        e.due("one", x.frost(0), 1);
        e.due("who stays in a ROOT's CELL", x.grave(0, 3), 0);
        e.due("who stays in a ROOT's CELL", x.grave(1, 3), 0);
    }

    private void undo() {
        e.says(15, "The last ACT is UNDONE: how many more can be; NONE, and nothing happens: none can.");
        e.leavesAll("at first", () -> Scene.of("yard 2 6;grave 0 5 plain"), y -> y.undo(), -1);
        e.leavesAll("without a YARD", GraveRails::new, y -> y.undo(), -1);
        e.leavesAll("all UNDONE", () -> undone(Scene.rich(), 3), y -> y.undo(), -1);
        GraveRails x = Scene.rich();
        e.due("two more", x.undo(), 2);
        e.due("the last one, pay", x.grave(4, 2), 2);
        e.due("one more", x.undo(), 1);
        e.due("dig", x.count(2), 4);
        e.due("none more", x.undo(), 0);
        e.due("year", x.count(5), 0);
        e.due("none", x.undo(), -1);
        e.due("the RULE IN FORCE is no ACT's", x.count(4), 1);
        e.due("nor are SIGHTS", x.count(8), 2);
        e.due("nor is x", x.count(10), 7);

        e.says(15, "The last 20 ACTS can be UNDONE, the last first.");
        x = Scene.of("yard 1 20");
        for (int i = 1; i <= 25; i++) {
            x.year();
            e.due("after " + i, x.count(9), Math.min(i, 20));
        }
        for (int i = 19; i >= 0; i--) {
            e.due("undo", x.undo(), i);
            e.due("YEAR", x.count(5), 5 + i);
        }
        e.due("a 21st", x.undo(), -1);
        e.due("YEAR", x.count(5), 5);
        x = Scene.pass(Scene.of("yard 1 20"), 20);
        for (int i = 19; i >= 0; i--) {
            e.due("of 20", x.undo(), i);
        }
        e.due("YEAR 0", x.count(5), 0);
        x = Scene.pass(Scene.of("yard 1 20"), 21);
        while (x.undo() > 0) {
            e.due("of 21", x.count(5) > 1, true);
        }
        e.due("YEAR 1", x.count(5), 1);
        x = Scene.pass(Scene.of("yard 1 20"), 20);
        x.undo();
        x.undo();
        x.dig(0, 3, 0);
        e.due("new ones in place of two", x.count(9), 19);
        x.undo();
        e.due("the new one", x.count(2), 0);
        x.undo();
        e.due("an old one", x.count(5), 17);
    }

    private static GraveRails undone(GraveRails x, int times) {
        for (int i = 0; i < times; i++) {
            x.undo();
        }
        return x;
    }

    private void undoEach() {
        e.says(15, "ACTS: a YEAR; DIG");
        undone("year", x -> x.year());
        undone("dig", x -> x.dig(0, 0, 3));
        undone("pay", x -> x.pay(0));
        undone("frost", x -> x.frost(0));
        // where much happens in a YEAR: falls, a flood, ROOTS, ROUND, STONES
        String yard = "yard 2 6;grave 0 0 plain;grave 1 1 child;grave 0 4 stands;grave 0 5 unpaid;grave 1 5 plain;root 1 4 2;"
                + "heavy 3;flood 0;pair 1 4";
        GraveRails x = Scene.of(yard);
        x.year();
        e.due("two fell", x.count(6), 2);
        x.undo();
        e.same("a YEAR of much", Scene.traceOf(x), Scene.traceOf(Scene.of(yard)));
    }

    private void undone(String name, Consumer<GraveRails> act) {
        GraveRails x = Scene.rich();
        act.accept(x);
        e.due(name + " is an ACT", x.count(9), 4);
        e.due(name + " UNDONE", x.undo(), 3);
        e.same(name + " UNDONE: all is as it was", Scene.traceOf(x), Scene.traceOf(Scene.rich()));
    }
}
