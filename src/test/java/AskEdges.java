import java.util.function.ToLongFunction;

/** Promises 16 to 30: what is asked of years to come and of those that were, draws, counts, IMAGES. */
final class AskEdges {
    private static final int LEAST = Integer.MIN_VALUE;
    private static final int MOST = Integer.MAX_VALUE;

    /** GRAVE 2's way tells who of 0 and 1 was unpaid: it goes as many STEPS as there are fallen ones. */
    private static final String TELLING = "yard 3 20;grave 0 1 plain;grave 1 3 unpaid;grave 2 19 child";
    private static final String TELLING_RULE = "go fallen if child=1;go 1+unpaid";

    private final Edges e;

    AskEdges(Edges e) {
        this.e = e;
    }

    void all() {
        nothingChanges();
        ahead();
        fall();
        abreast();
        begin();
        beginWhere();
        dug();
        dugRange();
        sight();
        unpaid();
        unpaidBits();
        look();
        lookParts();
        war();
        order();
        seed();
        draws();
        drawn();
        drawnWithout();
        count();
        image();
        back();
    }

    private void asks(String name, ToLongFunction<GraveRails> call) {
        e.leavesAll(name, call, call.applyAsLong(Scene.rich()));
    }

    private void nothingChanges() {
        e.says(16, "(By what is asked nothing changes; YEARS go on by the RULE IN FORCE; 200 YEARS are looked at most.)");
        asks("ahead", x -> x.ahead(0, 200, 1));
        asks("fall", x -> x.fall(1));
        asks("abreast", x -> x.abreast(0, 1));
        asks("begin", x -> x.begin(1, 0));
        asks("dug", x -> x.dug(0, 1, 1, 0));
        asks("unpaid", x -> x.unpaid(0));
        asks("look", x -> x.look(9, 0));
        asks("war", x -> x.war(50));
        asks("order", x -> x.order(2));
        asks("drawn", x -> x.drawn(10, 60, 50, 0));
        asks("count", x -> x.count(12));
        asks("grave", x -> x.grave(0, 7));
        asks("stone", x -> x.stone(0, 3));
        asks("at", x -> x.at(0, 3));
        asks("root", x -> x.root(1, 1));
        GraveRails x = Scene.of("yard 2 20;grave 0 9 plain;grave 1 19 plain", "go 3");
        e.due("by the RULE: ahead", x.ahead(0, 2, 1), 3);
        e.due("by the RULE: fall", x.fall(0), 3);
        e.due("by the RULE: order", x.order(1), 1);
        e.due("by the RULE: dug", x.dug(0, 0, 16, 0), 1);
        x.sight(1, 16, 1);
        e.due("by the RULE: unpaid", x.unpaid(0), 4);
        e.due("by the RULE: drawn", x.drawn(1, 7, 0, 0), 2);
        e.due("by the RULE: begin, behind it", x.begin(0, 2), 10);
        x.force(-1);
        e.due("by none: ahead", x.ahead(0, 2, 1), 7);
        e.due("by none: fall", x.fall(0), 9);
        e.due("by none: dug", x.dug(0, 0, 16, 1), 3);
        e.due("by none: unpaid", x.unpaid(0), 0);
        e.due("by none: drawn", x.drawn(1, 7, 0, 0), 0);
        e.due("by none: begin", x.begin(0, 0), 1);
        e.due("by none: begin", x.begin(0, 1), 1);
    }

    /** The one GRAVE, in LANE 0 and CELL 1, goes one STEP in one YEAR. */
    private static GraveRails oneStepIn(int year) {
        return Scene.of("yard 2 9;grave 0 1 plain;grave 1 0 stands", "go 1 if year=" + year + ";go 0");
    }

    private static GraveRails fallsIn(int year) {
        return Scene.of("yard 2 9;grave 0 0 plain;grave 1 8 stands", "go 1 if year=" + year + ";go 0");
    }

    // ---- promises 16 to 18

    private void ahead() {
        e.says(16, "AHEAD n YEARS (0 to 200): LANE, CELL of a GRAVE.");
        GraveRails x = oneStepIn(199);
        e.due("0: now", x.ahead(0, 0, 1), 1);
        e.due("199", x.ahead(0, 199, 1), 1);
        e.due("200", x.ahead(0, 200, 1), 0);
        e.due("200", x.ahead(0, 200, 0), 0);
        e.due("201", x.ahead(0, 201, 1), -2);
        e.due("-1", x.ahead(0, -1, 1), -2);
        x.year();
        e.due("from now on", x.ahead(0, 199, 1), 0);
        e.due("from now on", x.ahead(0, 198, 1), 1);
        x = Scene.of("yard 2 9;grave 1 8 plain;grave 1 7 stands");
        e.due("LANE now", x.ahead(0, 0, 0), 1);
        e.due("LANE then", x.ahead(0, 1, 0), 0);

        e.says(16, "AHEAD what 0: LANE, 1: CELL (both NONE: fallen by then). -2 without these.");
        x = Scene.of("yard 2 9;grave 1 2 plain;grave 0 8 stands");
        e.due("in CELL 0", x.ahead(0, 2, 1), 0);
        e.due("in CELL 0: LANE", x.ahead(0, 2, 0), 1);
        e.due("fallen: CELL", x.ahead(0, 3, 1), -1);
        e.due("fallen: LANE", x.ahead(0, 3, 0), -1);
        e.due("fallen since", x.ahead(0, 200, 0), -1);
        Scene.pass(x, 3);
        e.due("fallen before", x.ahead(0, 0, 0), -1);
        e.due("fallen before", x.ahead(0, 0, 1), -1);
        e.due("the last GRAVE", x.ahead(1, 200, 1), 8);
        int[][] without = {{-1, 0, 0}, {5, 0, 0}, {10, 0, 0}, {0, -1, 0}, {0, 201, 0}, {0, 0, -1}, {0, 0, 2},
            {LEAST, 0, 0}, {MOST, 0, 0}, {0, LEAST, 0}, {0, MOST, 0}, {0, 0, LEAST}, {0, 0, MOST}};
        for (int[] n : without) {
            e.leavesAll("ahead " + n[0] + " " + n[1] + " " + n[2], y -> y.ahead(n[0], n[1], n[2]), -2);
        }
        e.due("without a YARD", new GraveRails().ahead(0, 0, 0), -2);
    }

    private void fall() {
        e.says(17, "FALL: the YEAR in which one falls.");
        GraveRails two = Scene.of("yard 2 9;grave 0 3 plain;grave 1 4 child");
        e.due("from 3", two.fall(0), 3);
        e.due("a child from 4", two.fall(1), 2);
        two.year();
        e.due("the same YEAR a YEAR later", two.fall(0), 3);

        e.says(17, "FALL (of one that has fallen, too); -2: not in 200 YEARS; NONE without that GRAVE.");
        e.due("in the last", fallsIn(199).fall(0), 199);
        e.due("not in 200", fallsIn(200).fall(0), -2);
        GraveRails x = fallsIn(200);
        x.year();
        e.due("from now on", x.fall(0), 200);
        e.due("in the first", fallsIn(0).fall(0), 0);
        e.due("who stands", x.fall(1), -2);
        e.due("in a FLOOD", Scene.of("yard 1 2;grave 0 1 stands;flood 99").fall(0), 99);
        x = Scene.pass(Scene.of("yard 2 9;grave 0 0 plain;grave 1 3 plain"), 3);
        e.due("has fallen", x.fall(0), 0);
        e.due("falls in this YEAR", x.fall(1), 3);
        for (int g : new int[] {-1, 5, 9, 10, 11, LEAST, MOST}) {
            e.leavesAll("GRAVE " + g, y -> y.fall(g), -1);
        }
        x.dig(0, 4, 1);
        e.due("one that was dug", x.fall(2), 5);
        e.due("without a YARD", new GraveRails().fall(0), -1);
    }

    private void abreast() {
        e.says(18, "ABREAST: the first YEAR from now on (as it begins) at which two GRAVES, neither fallen, lie in one CELL number of two LANES.");
        GraveRails x = Scene.of("yard 3 9;grave 0 8 child;grave 1 4 plain;grave 2 8 stands");
        e.due("now", x.abreast(0, 2), 0);
        e.due("the other way", x.abreast(2, 0), 0);
        e.due("in YEAR 4", x.abreast(0, 1), 4);
        e.due("never", x.abreast(1, 2), -2);
        x.year();
        e.due("not now any more", x.abreast(0, 2), -2);
        e.due("in YEAR 4", x.abreast(0, 1), 4);
        Scene.pass(x, 3);
        e.due("in this YEAR", x.abreast(0, 1), 4);
        x.year();
        e.due("both fell", x.count(6), 2);
        e.due("both fell", x.abreast(0, 1), -2);
        x = Scene.of("yard 3 9;grave 0 8 child;grave 1 7 plain", "go 3 if child=1;go 1");
        e.due("in the midst of a YEAR it is by it", x.abreast(0, 1), -2);
        x = Scene.of("yard 2 9;grave 0 1 child;grave 1 0 plain");
        e.due("both fall in YEAR 0", x.abreast(0, 1), -2);
        x = Scene.of("yard 2 9;grave 0 1 child;grave 1 8 child");
        x.year();
        e.due("one fell", x.abreast(0, 1), -2);
        e.due("one fell, the other way", x.abreast(1, 0), -2);
        x = Scene.of("yard 2 9;grave 0 5 plain;grave 0 8 child");
        e.due("of one LANE", x.abreast(0, 1), -2);

        e.says(18, "(YEARS from YEAR to 200 more); -2: never; NONE without these (unlike).");
        e.due("200 more", oneStepIn(199).abreast(0, 1), 200);
        e.due("201 more", oneStepIn(200).abreast(0, 1), -2);
        e.due("1 more", oneStepIn(0).abreast(0, 1), 1);
        x = oneStepIn(200);
        x.year();
        e.due("200 more than 1", x.abreast(0, 1), 201);
        int[][] without = {{0, 0}, {4, 4}, {-1, 0}, {0, -1}, {5, 0}, {0, 5}, {-1, -1}, {5, 6}, {LEAST, 0}, {0, MOST}};
        for (int[] n : without) {
            e.leavesAll("abreast " + n[0] + " " + n[1], y -> y.abreast(n[0], n[1]), -1);
        }
        e.due("one that fell with itself", Scene.pass(Scene.of("yard 1 2;grave 0 0 plain"), 1).abreast(0, 0), -1);
        e.due("without a YARD", new GraveRails().abreast(0, 1), -1);
    }

    // ---- promises 19 and 20

    private void begins(String when, GraveRails x, int grave, int many, int lane, int cell) {
        e.due(when + ": how many", x.begin(grave, 0), many);
        e.due(when + ": LANE", x.begin(grave, 1), lane);
        e.due(when + ": CELL", x.begin(grave, 2), cell);
    }

    private void begin() {
        e.says(19, "BEGIN with a GRAVE what 0: how many places, 1: LANE, 2: CELL of the first (-2: there is none; also if it does not fall,"
                + " or has fallen). NONE without these.");
        begins("one place", Scene.of("yard 2 9;grave 0 3 plain"), 0, 1, 1, 3);
        begins("none", Scene.of("yard 2 3;grave 0 1 plain;grave 1 1 plain"), 0, 0, -2, -2);
        begins("does not fall", Scene.of("yard 2 3;grave 0 1 stands"), 0, 0, -2, -2);
        begins("does not fall: waits for ever", Scene.of("yard 2 3;grave 0 0 plain;grave 1 1 stands;pair 0 1"), 0, 0, -2, -2);
        begins("has fallen", Scene.pass(Scene.of("yard 2 3;grave 0 0 plain"), 1), 0, 0, -2, -2);
        begins("the last GRAVE", Scene.of("yard 2 9;grave 0 3 plain;grave 0 5 plain"), 1, 1, 1, 5);
        begins("in CELL 0 of LANE 0", Scene.of("yard 2 9;grave 1 0 plain"), 0, 1, 0, 0);
        int[][] without = {{-1, 0}, {5, 0}, {10, 0}, {0, -1}, {0, 3}, {LEAST, 0}, {MOST, 0}, {0, LEAST}, {0, MOST}};
        for (int[] n : without) {
            e.leavesAll("begin " + n[0] + " " + n[1], y -> y.begin(n[0], n[1]), -1);
        }
        e.due("without a YARD", new GraveRails().begin(0, 0), -1);

        e.says(19, "(also an eleventh, on paper)");
        GraveRails x = Scene.of("yard 3 20;grave 0 3 plain;grave 2 0 stands;grave 2 1 stands;grave 2 2 stands;grave 2 3 stands;"
                + "grave 2 4 stands;grave 2 5 stands;grave 2 6 stands;grave 2 7 stands;grave 2 8 stands");
        e.due("ten", x.dig(1, 3, 0), -1);
        begins("with ten", x, 0, 1, 1, 3);
        x.force(Checks.tellRule(x, "go 4 if grave=10;go 1"));
        // its number is 10: it falls in 3 from 12 to 15 of any LANE (of the last one ROUND those that stand),
        // and from 4 on behind GRAVE 0
        begins("by its number", x, 0, 4 + 4 + 12, 0, 4);
        e.due("ten still", x.count(2), 10);
        e.due("none there", x.at(1, 3), -1);
    }

    private void beginWhere() {
        e.says(19, "BEGIN with a GRAVE: places where none lies so that a plain one, dug there now (also an eleventh, on paper),"
                + " falls in the YEAR in which that GRAVE falls then: how many; the first (by LANES, then CELLS).");
        // LANE 0: from 4 or 5 in YEAR 2; LANE 1: from 2
        GraveRails x = Scene.of("yard 3 9;grave 2 2 plain", "go 2 if lane=0;go 1");
        begins("by LANES, then CELLS", x, 0, 3, 0, 4);
        begins("the least CELL", Scene.of("yard 3 9;grave 2 2 plain", "go 2 if lane=1;go 0 if lane=0;go 1"), 0, 2, 1, 4);
        // then: a child in 5 goes behind the new one in 2, 3, or 4, and falls with it
        begins("in which that GRAVE falls then", Scene.of("yard 2 9;grave 0 5 child"), 0, 4, 0, 2);
        begins("not where one lies", Scene.of("yard 2 9;grave 0 5 child;grave 0 2 plain"), 0, 3, 0, 3);
        begins("a plain one", Scene.of("yard 2 9;grave 1 3 plain", "go 1+child+unpaid+2*lane*0"), 0, 1, 0, 3);
        x = Scene.of("yard 2 9;grave 1 8 plain", "go 1 if age>1;go 0");
        Scene.pass(x, 4);
        begins("dug now: it waits two YEARS", x, 0, 1, 0, 4);
        e.due("falls in", x.fall(0), 10);
        begins("in the last YEAR", fallsIn(199), 0, 1, 1, 0);
        begins("not in 200", fallsIn(200), 0, 0, -2, -2);
        x = fallsIn(200);
        x.year();
        begins("from now on", x, 0, 1, 1, 0);
        begins("in a FLOOD", Scene.of("yard 2 4;grave 0 0 stands;flood 0"), 0, 3, 0, 1);
    }

    private void dug() {
        e.says(20, "DUG: a GRAVE of a KIND (0 plain, 1 child, 2 unpaid) that came to a CELL of a LANE of a YARD empty but for ROOTS (no FLOODS),"
                + " from the last CELL of that LANE: YEARS ago it can have been dug there");
        GraveRails x = Scene.of("yard 2 9;grave 0 8 stands;grave 0 7 stands;root 0 6 3;root 1 8 9;flood 0;flood 11");
        int[] least = {11, 10, 9, 8, 7, 6, 2, 1, 0};
        for (int cell = 0; cell < 9; cell++) {
            e.due("how many, CELL " + cell, x.dug(0, 0, cell, 0), cell == 6 ? 4 : 1);
            e.due("the least, CELL " + cell, x.dug(0, 0, cell, 1), least[cell]);
            e.due("the greatest, CELL " + cell, x.dug(0, 0, cell, 2), cell == 6 ? 5 : least[cell]);
        }
        for (int cell = 0; cell < 9; cell++) {
            e.due("LANE 1, not held where it was dug, CELL " + cell, x.dug(0, 1, cell, 1), 8 - cell);
        }
        for (int kind = 1; kind <= 2; kind++) {
            e.due("by two STEPS", x.dug(kind, 1, 6, 1), 1);
            e.due("not in every CELL", x.dug(kind, 1, 7, 0), 0);
            e.due("to CELL 0", x.dug(kind, 1, 0, 2), 4);
            e.due("held", x.dug(kind, 0, 6, 0), 4);
            e.due("held", x.dug(kind, 0, 4, 1), 5);
        }

        GraveRails far = Scene.of("yard 4 20;root 3 18 2;root 3 19 9;root 3 0 1");
        e.due("ROOTS of the last LANE", far.dug(0, 3, 18, 2), 3);
        e.due("ROOTS of the last LANE", far.dug(0, 3, 17, 1), 4);
        e.due("ROOTS of CELL 0", far.dug(0, 3, 0, 0), 2);
        Checks.tellYard(far, "yard 4 20;grave 0 0 plain");
        e.due("no ROOT any more", far.dug(0, 3, 18, 2), 1);

        e.says(20, "DUG of a KIND (0 to 2) what 0: how many, 1: the least, 2: the greatest YEARS ago (-2: none). NONE without these.");
        e.due("none: how many", x.dug(1, 0, 7, 0), 0);
        e.due("none: the least", x.dug(1, 0, 7, 1), -2);
        e.due("none: the greatest", x.dug(1, 0, 7, 2), -2);
        int[][] without = {{-1, 0, 0, 0}, {3, 0, 0, 0}, {0, -1, 0, 0}, {0, 2, 0, 0}, {0, 0, -1, 0}, {0, 0, 6, 0}, {0, 0, 0, -1},
            {0, 0, 0, 3}, {LEAST, 0, 0, 0}, {MOST, 0, 0, 0}, {0, MOST, 0, 0}, {0, 0, LEAST, 0}, {0, 0, 0, MOST}};
        for (int[] n : without) {
            e.leavesAll("dug " + n[0] + " " + n[1] + " " + n[2] + " " + n[3], y -> y.dug(n[0], n[1], n[2], n[3]), -1);
        }
        e.due("the last KIND, LANE, CELL, what", Scene.rich().dug(2, 1, 5, 2), 0);
        e.due("without a YARD", new GraveRails().dug(0, 0, 0, 0), -1);
    }

    private void dugRange() {
        e.says(20, "(0 to 40): how many, the least, the greatest. (It is GRAVE 0 there, dug in YEAR 0.)");
        GraveRails x = Scene.of("yard 2 9;grave 0 3 plain", "go 1 if year=39;go 0");
        Scene.pass(x, 3);
        e.due("40", x.dug(0, 1, 7, 0), 1);
        e.due("40", x.dug(0, 1, 7, 1), 40);
        e.due("40", x.dug(0, 1, 7, 2), 40);
        e.due("0 to 39", x.dug(0, 1, 8, 0), 40);
        e.due("0 to 39", x.dug(0, 1, 8, 1), 0);
        e.due("0 to 39", x.dug(0, 1, 8, 2), 39);
        x.force(Checks.tellRule(x, "go 1 if year=40;go 0"));
        e.due("not 41", x.dug(0, 1, 7, 0), 0);
        e.due("not 41", x.dug(0, 1, 7, 2), -2);
        e.due("0 to 40", x.dug(0, 1, 8, 0), 41);
        e.due("0 to 40", x.dug(0, 1, 8, 2), 40);
        x.force(Checks.tellRule(x, "go 1 if grave=0 and age=year and pair=0 and flood=0 and fallen=0;go 0"));
        e.due("GRAVE 0, of YEAR 0, alone", x.dug(0, 1, 5, 1), 3);
        x.force(Checks.tellRule(x, "go 1 if year=0;go 0"));
        e.due("its first YEAR is 0, whatever YEAR it is", x.dug(0, 0, 7, 0), 40);
        e.due("its first YEAR is 0, whatever YEAR it is", x.dug(0, 0, 7, 1), 1);
    }

    // ---- promises 21 to 23

    private void sight() {
        e.says(21, "A SIGHT (grave NONE: there are none then, 0; of a GRAVE of the text): how many;");
        GraveRails x = Scene.rich();
        e.due("a third", x.sight(3, 2, 0), 3);
        e.due("the same once more", x.sight(3, 2, 0), 4);
        x.sight(0, 0, 0);
        e.due("one that is not so", x.unpaid(0), 0);
        e.due("none", x.sight(-1, 0, 0), 0);
        e.due("none", x.count(8), 0);
        e.due("all sets again", x.unpaid(0), 4);
        e.due("a first", x.sight(0, 0, 0), 1);
        e.due("none, whatever else", x.sight(-1, -1, 100), 0);
        e.due("none", x.count(8), 0);
        e.due("none, without a YARD", new GraveRails().sight(-1, 0, 0), 0);
        e.due("no ACT", x.count(9), 3);
        e.leavesAll("a GRAVE that was dug", y -> y.sight(4, 0, 0), -2);
        e.due("the last of the text", x.sight(3, 0, 0), 1);

        e.says(21, "-2, and nothing happens, without these (a CELL of the YARD, a YEAR 0 to 99), or if there are 10.");
        int[][] without = {{-2, 0, 0}, {5, 0, 0}, {10, 0, 0}, {0, -1, 0}, {0, 6, 0}, {0, 0, -1}, {0, 0, 100},
            {LEAST, 0, 0}, {MOST, 0, 0}, {0, LEAST, 0}, {0, MOST, 0}, {0, 0, LEAST}, {0, 0, MOST}};
        for (int[] n : without) {
            e.leavesAll("sight " + n[0] + " " + n[1] + " " + n[2], y -> y.sight(n[0], n[1], n[2]), -2);
        }
        int[][] taken = {{0, 0, 0}, {3, 5, 99}, {0, 5, 0}, {3, 0, 99}};
        for (int[] n : taken) {
            e.due("sight " + n[0] + " " + n[1] + " " + n[2], Scene.rich().sight(n[0], n[1], n[2]), 3);
        }
        x = Scene.of(TELLING);
        for (int i = 1; i <= 10; i++) {
            e.due("SIGHT", x.sight(2, 19, 0), i);
        }
        e.due("an eleventh", x.sight(2, 19, 0), -2);
        e.due("ten", x.count(8), 10);
        e.leavesAll("an eleventh, that is not so", AskEdges::tenSights, y -> y.sight(2, 5, 0), -2);
        e.leavesAll("without a YARD", GraveRails::new, y -> y.sight(0, 0, 0), -2);
        x = tenSights();
        x.sight(-1, 0, 0);
        e.due("after none", x.sight(2, 5, 0), 1);

        e.says(21, "SIGHTS 0 to 9, told: a GRAVE was in a CELL at the begin of a YEAR (0 to 99).");
        e.due("in YEAR 0 where it was told", seen(0, 1, 0), 4);
        e.due("in YEAR 0 elsewhere", seen(0, 0, 0), 0);
        e.due("in YEAR 99", Scene.of("yard 1 9;grave 0 8 stands").unpaid(0), 1);
        x = Scene.of("yard 1 9;grave 0 8 stands");
        x.sight(0, 8, 99);
        e.due("in YEAR 99", x.unpaid(0), 1);
        x.sight(0, 7, 99);
        e.due("elsewhere in YEAR 99", x.unpaid(0), 0);
        x = Scene.of("yard 2 9;grave 0 8 plain", "go 1 if year=98;go 0");
        x.sight(0, 7, 99);
        e.due("there by then", x.unpaid(0), 2);
        x.sight(0, 8, 98);
        e.due("and not before", x.unpaid(0), 2);
        // the tenth counts as the first does
        x = Scene.of("yard 2 9;grave 0 8 plain");
        for (int i = 0; i < 9; i++) {
            x.sight(0, 8, 0);
        }
        e.due("nine", x.unpaid(0), 2);
        x.sight(0, 6, 1);
        e.due("and a tenth", x.unpaid(1), 1);
    }

    private static GraveRails tenSights() {
        GraveRails x = Scene.of("yard 2 6;grave 0 5 plain;grave 1 5 child;grave 0 3 stands");
        for (int i = 0; i < 10; i++) {
            x.sight(2, 3, i);
        }
        return x;
    }

    /** Sets of the telling YARD with one SIGHT. */
    private static int seen(int grave, int cell, int year) {
        GraveRails x = Scene.of(TELLING, TELLING_RULE);
        x.sight(grave, cell, year);
        return x.unpaid(0);
    }

    private void sets(String when, GraveRails x, int many, int inAll, int inNone) {
        e.due(when + ": how many", x.unpaid(0), many);
        e.due(when + ": in all", x.unpaid(1), inAll);
        e.due(when + ": in none", x.unpaid(2), inNone);
    }

    private void unpaid() {
        e.says(22, "UNPAID what 0: how many sets, 1: who in all, 2: who in none (no set: 0). NONE for others, or without a YARD.");
        // GRAVE 2 at the begin of 2: 18 by none, 17 by either, 16 by both
        int[][] due = {{18, 1, 0, 3}, {17, 2, 0, 0}, {16, 1, 3, 0}, {19, 0, 0, 0}, {15, 0, 0, 0}};
        for (int[] n : due) {
            GraveRails x = Scene.of(TELLING, TELLING_RULE);
            x.sight(2, n[0], 2);
            sets("in " + n[0], x, n[1], n[2], n[3]);
        }
        GraveRails x = Scene.of(TELLING, TELLING_RULE);
        x.sight(2, 18, 1);
        sets("0 was", x, 2, 1, 0);
        x.sight(-1, 0, 0);
        x.sight(2, 19, 1);
        sets("0 was not", x, 2, 0, 1);
        x.sight(2, 17, 2);
        sets("but 1", x, 1, 2, 1);
        for (int what : new int[] {-1, 3, LEAST, MOST}) {
            e.leavesAll("what " + what, y -> y.unpaid(what), -1);
        }
        e.due("without a YARD", new GraveRails().unpaid(0), -1);
        e.due("without a YARD", new GraveRails().unpaid(2), -1);
        sets("no GRAVES", Scene.of("yard 1 2"), 1, 0, 0);

        e.says(22, "UNPAID: sets of those GRAVES that the text told as plain or unpaid, of them who were unpaid, the others plain");
        sets("all sets", Scene.of(TELLING), 4, 0, 0);
        sets("child and stands alone", Scene.of("yard 2 9;grave 0 8 child;grave 1 8 stands"), 1, 0, 0);
        x = Scene.of("yard 4 9;grave 0 8 child;grave 1 8 plain;grave 2 8 stands;grave 3 8 unpaid");
        x.sight(1, 6, 1);
        sets("one told as plain was unpaid", x, 2, 2, 0);
        x.sight(3, 7, 1);
        sets("one told as unpaid was plain", x, 1, 2, 8);
        x.sight(-1, 0, 0);
        x.sight(0, 7, 1);
        sets("a child is no plain one", x, 0, 0, 0);
        x.sight(-1, 0, 0);
        x.sight(0, 6, 1);
        x.sight(2, 8, 1);
        sets("who is as told", x, 4, 0, 0);
    }

    private void unpaidBits() {
        e.says(22, "so that from the begin of the YARD on, as the text told it, all SIGHTS are so: how many; who in all, who in none, as bits.");
        GraveRails x = Scene.of("yard 2 20;grave 0 19 plain;grave 1 19 unpaid");
        x.pay(1);
        Scene.pass(x, 2);
        x.dig(0, 16, 3);
        x.frost(1);
        x.sight(0, 16, 3);
        x.sight(1, 13, 3);
        sets("whatever was done since", x, 1, 2, 1);
        x = Scene.of("yard 2 20;grave 0 3 plain;grave 1 19 plain;flood 1");
        x.sight(0, 1, 2);
        sets("with told FLOODS: an unpaid one fell by it", x, 2, 0, 1);
        x = Scene.of("yard 2 20;grave 0 19 plain;root 0 17 9");
        x.sight(0, 17, 9);
        sets("with ROOTS", x, 2, 0, 0);
        x = Scene.of("yard 2 20;grave 0 2 plain;grave 1 5 plain;pair 0 1");
        x.sight(0, 2, 2);
        x.sight(1, 2, 2);
        sets("with pairs: 1 in 2 after two YEARS, by STEPS of 2 to 1 and waiting no more", x, 0, 0, 0);
        x = Scene.of(Scene.rowOf(10, "plain"));
        sets("ten", x, 1024, 0, 0);
        x.sight(9, 9, 1);
        x.sight(0, 0, 0);
        sets("ten: the last waited", x, 0, 0, 0);
        x = Scene.of(Scene.rowOf(9, "stands") + ";grave 1 19 plain");
        x.sight(9, 17, 1);
        sets("the tenth's bit", x, 1, 512, 0);
        x.sight(-1, 0, 0);
        x.sight(9, 18, 1);
        sets("the tenth's bit", x, 1, 0, 512);
        x = Scene.of("yard 1 9;grave 0 1 plain");
        x.sight(0, 0, 1);
        sets("who fell is in no CELL: an unpaid one", x, 1, 0, 1);
        x.sight(0, 0, 2);
        sets("who fell is in no CELL", x, 0, 0, 0);
    }

    private void looks(String when, GraveRails x, int year, int grave, int alike) {
        e.due(when + ", YEAR " + year + ": GRAVE", x.look(year, 0), grave);
        e.due(when + ", YEAR " + year + ": alike", x.look(year, 1), alike);
    }

    private void look() {
        e.says(23, "LOOK in a YEAR (0 to 99) what 0: the GRAVE, 1: how many are alike at most; -2: no set, or no GRAVE. NONE without these, or a YARD.");
        GraveRails x = Scene.of(TELLING, TELLING_RULE);
        looks("all alike", x, 0, 0, 4);
        looks("all fell, and 2 is far on", x, 99, 0, 4);
        x = Scene.of("yard 2 9;grave 0 8 plain", "go 1 if year=98 and unpaid=1;go 0");
        looks("the last YEAR", x, 99, 0, 1);
        looks("the last YEAR but one", x, 98, 0, 2);
        x.sight(0, 5, 0);
        looks("no set", x, 0, -2, -2);
        looks("no GRAVE", Scene.of("yard 2 9"), 0, -2, -2);
        x = Scene.of("yard 2 9");
        x.dig(0, 8, 0);
        looks("none of the text", x, 1, -2, -2);
        int[][] without = {{-1, 0}, {100, 0}, {0, -1}, {0, 2}, {LEAST, 0}, {MOST, 0}, {0, LEAST}, {0, MOST}};
        for (int[] n : without) {
            e.leavesAll("look " + n[0] + " " + n[1], y -> y.look(n[0], n[1]), -1);
        }
        e.due("without a YARD", new GraveRails().look(0, 0), -1);
        e.due("without a YARD", new GraveRails().look(0, 1), -1);
        x = Scene.of("yard 2 9");
        e.due("no GRAVE, and no such YEAR", x.look(100, 0), -1);
        e.due("no GRAVE, and no such what", x.look(0, 2), -1);
    }

    private void lookParts() {
        e.says(23, "LOOK: the GRAVE of the text by whose CELL (or that it fell) at the begin of a YEAR these part best: the most alike are fewest;"
                + " of several the least.");
        GraveRails x = Scene.of(TELLING, TELLING_RULE);
        // YEAR 1: 0 in CELL 0, or fell; 1 in 2, or 1; 2 in 19, or 18: all two by two
        looks("of several the least", x, 1, 0, 2);
        // YEAR 2: 0 fell; 1 in 1, or fell; 2 in 18, 17, 17, 16
        looks("two of three", x, 2, 1, 2);
        // YEAR 3: 2 in 17, 16, 15, 14
        looks("the most alike are fewest, by a child", x, 3, 2, 1);
        x.sight(2, 17, 2);
        looks("of two sets, now known", x, 3, 1, 1);
        looks("of two sets", x, 2, 1, 1);
        looks("of two sets", x, 1, 0, 1);
        x.sight(2, 18, 1);
        looks("of one set", x, 3, 0, 1);
        x = Scene.of("yard 2 9;grave 0 1 plain;grave 1 8 stands");
        looks("or that it fell", x, 1, 0, 1);
        looks("fell in other YEARS is alike", x, 2, 0, 2);
        // by their CELLS, in whatever LANE
        x = Scene.of("yard 3 9;grave 1 4 stands;grave 1 5 plain", "go 1 if year=0;go unpaid*0");
        looks("one CELL", x, 1, 0, 2);
        x = Scene.of("yard 2 9;grave 0 8 stands;grave 1 8 plain");
        x.dig(0, 0, 0);
        Scene.pass(x, 9);
        looks("of the text, not of now", x, 1, 1, 1);
        StringBuilder s = new StringBuilder(Scene.rowOf(9, "stands")).append(";grave 1 19 unpaid");
        looks("the tenth, in the last CELL", Scene.of(s.toString()), 1, 9, 1);
    }

    // ---- promises 24 to 27

    private void war() {
        e.says(24, "WAR of n YEARS (1 to 50): as each of the n YEARS from now on begins, the LANES in whose last CELL none lies: how many, all together.");
        GraveRails x = Scene.of("yard 3 4;grave 0 3 plain;grave 1 3 stands;grave 2 0 plain");
        e.due("1: now", x.war(1), 1);
        e.due("2", x.war(2), 1 + 2);
        e.due("49", x.war(49), 1 + 48 * 2);
        e.due("50", x.war(50), 1 + 49 * 2);
        x.year();
        e.due("from now on", x.war(1), 2);
        x.dig(2, 3, 3);
        e.due("from now on", x.war(50), 50);
        e.due("all LANES", Scene.of("yard 4 20").war(50), 200);
        e.due("the last CELL, not the one ahead of it", Scene.of("yard 1 5;grave 0 3 stands").war(3), 3);
        e.due("the last CELL", Scene.of("yard 1 5;grave 0 4 stands").war(3), 0);
        e.due("the 50th YEAR", Scene.of("yard 1 5;grave 0 4 plain", "go 1 if year=48;go 0").war(50), 1);
        e.due("not a 51st", Scene.of("yard 1 5;grave 0 4 plain", "go 1 if year=49;go 0").war(50), 0);

        e.says(24, "WAR; NONE without these, or a YARD.");
        for (int n : new int[] {0, -1, 51, LEAST, MOST}) {
            e.leavesAll("war " + n, y -> y.war(n), -1);
        }
        e.due("without a YARD", new GraveRails().war(1), -1);
    }

    private void order() {
        e.says(25, "ORDER: who falls k-th from now on (of one YEAR as they fall), of GRAVES that have not fallen.");
        GraveRails x = Scene.of("yard 4 9;grave 3 0 plain;grave 0 0 plain;grave 1 1 child;grave 2 8 plain;grave 0 8 stands;flood 2");
        int[] order = {1, 0, 2, 3};
        for (int k = 0; k < 4; k++) {
            e.due("k " + k, x.order(k), order[k]);
        }
        e.due("k 4", x.order(4), -2);
        x.year();
        e.due("from now on", x.order(0), 3);
        e.due("from now on", x.order(1), -2);
        x = Scene.of("yard 4 9;grave 1 1 stands;grave 0 2 plain;grave 0 1 plain;flood 0", "go 9");
        e.due("by the flood first, LANE 0", x.order(0), 2);
        e.due("by the flood first, LANE 1", x.order(1), 0);
        e.due("then by its STEPS", x.order(2), 1);

        e.says(25, "ORDER: the k-th (0 and on); -2: so many do not fall in 200 YEARS; NONE without a YARD, or for k below 0.");
        e.due("in the last", fallsIn(199).order(0), 0);
        e.due("not in 200", fallsIn(200).order(0), -2);
        x = fallsIn(200);
        x.year();
        e.due("from now on", x.order(0), 0);
        x = Scene.of(Scene.rowOf(10, "plain"));
        e.due("the tenth", x.order(9), 9);
        for (int k : new int[] {10, 11, 12, MOST}) {
            e.due("k " + k, x.order(k), -2);
        }
        e.leavesAll("-1", y -> y.order(-1), -1);
        e.leavesAll("least", y -> y.order(LEAST), -1);
        e.due("no GRAVES", Scene.of("yard 1 2").order(0), -2);
        e.due("without a YARD", new GraveRails().order(0), -1);
    }

    private void seed() {
        e.says(26, "x becomes a number: what it was; NONE, and nothing happens, below 0.");
        GraveRails x = new GraveRails();
        e.due("0 at first", x.seed(MOST), 0);
        e.due("count", x.count(10), MOST);
        e.due("what it was", x.seed(0), MOST);
        e.due("count", x.count(10), 0);
        e.due("what it was", x.seed(1), 0);
        e.leavesAll("-1", y -> y.seed(-1), -1);
        e.leavesAll("least", y -> y.seed(LEAST), -1);
        e.due("no ACT", x.count(9), 0);
    }

    /** One that stands in CELL 1: it falls in the first FLOOD of n YEARS. */
    private static GraveRails drawing(int seed) {
        GraveRails x = Scene.of("yard 1 9;grave 0 1 stands");
        x.seed(seed);
        return x;
    }

    /**
     * DRAWS by hundreds, found by hand: from 0: 0, 68, 88, 17, 98, 27, 45, 41, 22, 10; from 2147483647: 29, 9, 62;
     * from 194: 99; from 128 the first 0 is the 60th, from 765 the 10th, and none other up to the 20th.
     */
    private void draws() {
        e.says(27, "DRAWS: x (0 to 2147483647; 0 at first) becomes x * 1103515245 + 12345, of 2147483648 the rest; a DRAW is x / 65536.");
        e.due("0 at first", drawing(0).seed(0), 0);
        int[] hundreds = {0, 68, 88, 17, 98, 27, 45, 41, 22, 10};
        for (int p : new int[] {0, 1, 10, 11, 17, 18, 45, 46, 68, 69, 88, 89, 98, 99, 100}) {
            int below = 0;
            for (int m = 1; m <= 10; m++) {
                below += hundreds[m - 1] < p ? 1 : 0;
                e.due(m + " of them below " + p, drawing(0).drawn(m, 1, p, 0), below);
            }
        }
        e.due("from the greatest x: 29", drawing(MOST).drawn(1, 1, 29, 0), 0);
        e.due("from the greatest x: 29", drawing(MOST).drawn(1, 1, 30, 0), 1);
        e.due("then 9", drawing(MOST).drawn(2, 1, 9, 0), 0);
        e.due("then 9", drawing(MOST).drawn(2, 1, 10, 0), 1);
        e.due("then 62", drawing(MOST).drawn(3, 1, 62, 0), 2);
        e.due("then 62", drawing(MOST).drawn(3, 1, 63, 0), 3);
        GraveRails never = new GraveRails();
        Checks.tellYard(never, "yard 1 9;grave 0 1 stands");
        e.due("x 0 without a seed", never.drawn(1, 1, 1, 0), 1);
    }

    private void drawn() {
        e.says(27, "FLOODS drawn m times (1 to 10; each from now on, as all is; x goes on) n YEARS (1 to 60)");
        e.due("the 60th YEAR", drawing(128).drawn(1, 60, 1, 0), 1);
        e.due("59 YEARS", drawing(128).drawn(1, 59, 1, 0), 0);
        e.due("the 10th time", drawing(765).drawn(10, 1, 1, 0), 1);
        e.due("9 times", drawing(765).drawn(9, 1, 1, 0), 0);
        // x goes on: the 10th DRAW is the last one of the fifth time, or the first one of the fourth
        e.due("5 times 2 YEARS", drawing(765).drawn(5, 2, 1, 0), 1);
        e.due("4 times 2 YEARS", drawing(765).drawn(4, 2, 1, 0), 0);
        e.due("4 times 3 YEARS", drawing(765).drawn(4, 3, 1, 0), 1);
        e.due("each as all is", drawing(0).drawn(10, 60, 100, 0), 10);
        GraveRails x = Scene.pass(Scene.of("yard 2 9;grave 0 0 plain;grave 1 2 plain;flood 0"), 1);
        e.due("from now on", x.drawn(3, 2, 0, 0), 3);
        e.due("from now on", x.drawn(3, 1, 100, 1), 3);

        e.says(27, "ahead of each YEAR a DRAW mod 100: below p (0 to 100) it is a YEAR of FLOOD (besides those told)");
        e.due("0 is not below 0", drawing(0).drawn(1, 1, 0, 0), 0);
        e.due("0 is below 1", drawing(0).drawn(1, 1, 1, 0), 1);
        e.due("99 is not below 99", drawing(194).drawn(1, 1, 99, 0), 0);
        e.due("99 is below 100", drawing(194).drawn(1, 1, 100, 0), 1);
        x = Scene.of("yard 1 9;grave 0 1 stands;flood 1");
        e.due("a told one", x.drawn(1, 2, 0, 1), 1);
        e.due("ahead of it", x.drawn(1, 1, 0, 1), 0);
        x = Scene.of("yard 2 9;grave 0 8 plain", "go 9 if flood=1;go 0");
        e.due("to the RULE, too", x.drawn(1, 1, 1, 0), 1);
        e.due("by its STEPS", x.drawn(1, 1, 1, 1), 0);
        // of YEARS 0 and 1 the first alone is below 1
        x = Scene.of("yard 2 9;grave 0 8 plain", "go 9 if flood=1 and year=1;go 0");
        e.due("no other YEAR", x.drawn(1, 2, 1, 0), 0);
        e.due("both", x.drawn(1, 2, 69, 0), 1);

        e.says(27, "GRAVES that fell, those by floods (told ones, too) among them, all together (nothing stays; x as it was).");
        x = Scene.of("yard 4 9;grave 0 0 plain;grave 1 1 stands;grave 2 3 plain;grave 3 8 plain;flood 1");
        e.due("fell", x.drawn(1, 4, 0, 0), 3);
        e.due("by floods", x.drawn(1, 4, 0, 1), 1);
        e.due("fell, twice", x.drawn(2, 4, 0, 0), 6);
        e.due("by floods, twice", x.drawn(2, 4, 0, 1), 2);
        e.due("fell, in YEAR 0", x.drawn(1, 1, 1, 0), 2);
        e.due("by floods, in YEAR 0", x.drawn(1, 1, 1, 1), 2);
        e.due("x", x.count(10), 0);
        e.due("YEAR", x.count(5), 0);
        e.due("none fell", x.count(6), 0);
        e.due("no FLOOD stays", x.fall(1), 1);
    }

    private void drawnWithout() {
        e.says(27, "FLOODS drawn what 0: GRAVES that fell, 1: by floods. NONE without these, or a YARD.");
        int[][] without = {{0, 1, 0, 0}, {11, 1, 0, 0}, {1, 0, 0, 0}, {1, 61, 0, 0}, {1, 1, -1, 0}, {1, 1, 101, 0}, {1, 1, 0, -1},
            {1, 1, 0, 2}, {LEAST, 1, 0, 0}, {MOST, 1, 0, 0}, {1, MOST, 0, 0}, {1, 1, LEAST, 0}, {1, 1, MOST, 0}, {1, 1, 0, MOST}};
        for (int[] n : without) {
            e.leavesAll("drawn " + n[0] + " " + n[1] + " " + n[2] + " " + n[3], y -> y.drawn(n[0], n[1], n[2], n[3]), -1);
        }
        e.due("the least of all", drawing(0).drawn(1, 1, 0, 0), 0);
        e.due("the greatest of all", drawing(0).drawn(10, 60, 100, 1), 10);
        e.due("without a YARD", new GraveRails().drawn(1, 1, 0, 0), -1);
        e.leavesAll("the greatest of all", y -> y.drawn(10, 60, 100, 1), Scene.rich().drawn(10, 60, 100, 1));
    }

    // ---- promises 28 to 30

    private void count() {
        e.says(28, "What 0: LANES, 1: CELLS, 2: GRAVES (fallen ones too), 3: RULES, 4: the RULE IN FORCE (NONE), 5: YEAR, 6: GRAVES that fell,"
                + " 7: who is held, as bits, 8: SIGHTS, 9: ACTS that can be UNDONE, 10: x, 11: bytes of the TAPE,"
                + " 12: how often one went ROUND, of all. NONE for others.");
        GraveRails x = Scene.of("yard 3 9;grave 1 0 plain;grave 1 8 child;grave 1 7 stands;grave 2 5 unpaid;grave 2 8 unpaid;root 2 4 2");
        Checks.tellRule(x, "go 1");
        Checks.tellRule(x, "go 2-2*child+child");
        x.force(1);
        x.seed(MOST);
        x.sight(0, 0, 0);
        x.year();
        x.dig(0, 8, 1);
        x.year();
        x.feed(0, 0, 0, 0, 0);
        x.end(13);
        int[] due = {3, 9, 6, 2, 1, 2, 1, 1 << 3, 1, 3, MOST, 13, 1};
        for (int what = 0; what < 13; what++) {
            e.due("what " + what, x.count(what), due[what]);
        }
        x.force(-1);
        e.due("none IN FORCE", x.count(4), -1);
        for (int what : new int[] {-1, 13, LEAST, MOST}) {
            e.leavesAll("what " + what, y -> y.count(what), -1);
            e.due("without a YARD: what " + what, new GraveRails().count(what), -1);
        }
        x = Scene.of(Scene.rowOf(9, "stands") + ";grave 1 5 plain;root 1 4 9");
        x.year();
        e.due("the tenth is held", x.count(7), 512);
        x = Scene.of("yard 4 9;grave 1 5 stands;grave 1 6 plain;grave 0 8 stands;grave 3 5 stands;grave 3 6 child");
        x.year();
        e.due("of all", x.count(12), 2);
    }

    private void image() {
        e.says(29, "An IMAGE is made (also where nothing was told yet): YEAR; NONE for another k.");
        GraveRails x = new GraveRails();
        for (int k = 0; k < 4; k++) {
            e.due("where nothing was told", x.image(k), 0);
        }
        Checks.tellYard(x, "yard 2 9;grave 0 8 plain");
        Scene.pass(x, 3);
        e.due("YEAR", x.image(0), 3);
        e.due("YEAR", x.image(3), 3);
        e.due("back to one where nothing was told", x.back(1), 0);
        e.due("no YARD", x.count(0), 0);
        e.due("no YARD", x.year(), -1);
        e.due("no GRAVES", x.count(2), 0);
        e.due("back to the one made anew", x.back(0), 3);
        e.due("its YARD", x.count(0), 2);
        for (int k : new int[] {-1, 4, LEAST, MOST}) {
            e.leavesAll("image " + k, y -> y.image(k), -1);
        }
        e.leavesAll("an IMAGE made changes nothing else", AskEdges::imaged, y -> y.image(1), 1);
        // it is as it was when it was made, whatever comes then
        x = Scene.of("yard 2 9;grave 0 8 plain");
        x.image(2);
        x.year();
        x.back(2);
        x.year();
        x.year();
        e.due("0 still", x.back(2), 0);
        e.due("8 still", x.grave(0, 1), 8);
    }

    private static GraveRails imaged() {
        GraveRails x = Scene.rich();
        x.image(1);
        return x;
    }

    private static GraveRails imagedAndBack() {
        GraveRails x = imaged();
        x.back(1);
        return x;
    }

    private void back() {
        e.says(30, "All is as in an IMAGE: YEAR; NONE, and nothing happens, if it was never made, or without it.");
        for (int k : new int[] {1, 3, -1, 4, LEAST, MOST}) {
            e.leavesAll("back " + k, y -> y.back(k), -1);
        }
        e.due("YEAR 0", Scene.rich().back(0), 0);
        e.due("YEAR 1", Scene.rich().back(2), 1);
        e.due("of an object without any", new GraveRails().back(0), -1);
        GraveRails x = imaged();
        x.end(0);
        x.year();
        x.dig(0, 5, 3);
        x.frost(0);
        x.sight(-1, 0, 0);
        x.sight(1, 5, 3);
        x.sight(1, 1, 2);
        x.sight(3, 1, 1);
        e.due("other SIGHTS, that are not so", x.unpaid(0), 0);
        x.force(0);
        x.seed(99);
        Checks.tellYard(x, "yard 4 20;grave 3 3 plain;grave 3 4 unpaid;pair 0 1;root 0 3 9;heavy 0;flood 1;flood 2");
        Scene.pass(x, 3);
        Checks.type(x, "yard 1 9;grave 0 8 child;grave 0 5 unpaid");
        e.due("back", x.back(1), 1);
        e.same("all as in the IMAGE", Scene.traceOf(x), Scene.traceOf(imagedAndBack()));

        x = Scene.of("yard 2 9;grave 0 8 plain;grave 1 8 stands");
        for (int i = 0; i < 9; i++) {
            x.sight(1, 8, i);
        }
        x.sight(0, 6, 1);
        e.due("by the tenth SIGHT", x.unpaid(1), 1);
        x.image(0);
        x.sight(-1, 0, 0);
        for (int i = 0; i < 10; i++) {
            x.sight(1, 8, 0);
        }
        e.due("by ten others", x.unpaid(1), 0);
        x.back(0);
        e.due("by the tenth SIGHT again", x.unpaid(0), 1);
        e.due("by the tenth SIGHT again", x.unpaid(1), 1);
        // each of what a SIGHT tells
        int[][] others = {{1, 6, 1}, {0, 7, 1}, {0, 6, 2}};
        x.sight(-1, 0, 0);
        x.sight(0, 6, 1);
        x.image(0);
        for (int[] n : others) {
            x.sight(-1, 0, 0);
            x.sight(n[0], n[1], n[2]);
            x.back(0);
            sets("back to a SIGHT", x, 1, 1, 0);
        }

        e.says(30, "IMAGES 0 to 3: all but the TAPE and the RULES, as it is (the RULE IN FORCE, too); gone back to, it is as it was"
                + " (these stay; nothing can be UNDONE then).");
        x = Scene.rich();
        e.due("in the IMAGE IN FORCE", x.image(3), 1);
        e.due("another one IN FORCE", x.force(0), 1);
        x.end(7);
        x.back(3);
        e.due("IN FORCE again", x.count(4), 1);
        e.due("the TAPE stays", x.count(11), 7);
        x.end(0);
        Checks.tellRule(x, "go 5");
        x.image(1);
        x.force(2);
        x.year();
        Checks.type(x, "go 6");
        x.back(3);
        e.due("the RULES stay", x.count(3), 3);
        e.due("the RULES stay", x.force(2), 1);
        e.due("the TAPE stays", x.count(11), 4);
        e.due("nothing can be UNDONE", x.count(9), 0);
        e.due("nothing can be UNDONE", x.undo(), -1);
        x.year();
        e.due("an ACT since", x.undo(), 0);
        e.due("no other one", x.undo(), -1);
        e.due("IMAGES stay", x.back(3), 1);
        e.due("IMAGES stay", x.back(0), 0);
        e.due("IMAGES stay", x.back(1), 1);
        e.due("IMAGES stay", x.back(2), 1);
        e.due("x, too", x.count(10), 7);
        e.due("SIGHTS, too", x.count(8), 1);
        e.due("in IMAGE 3 SIGHTS were two", Scene.rich().count(8), 2);
    }
}
