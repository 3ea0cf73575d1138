/**
 * Each promise of ../shared/DOC.md by hand: ordinary calls, the edges that the document names, wrong
 * calls. What is due was found from the document with pencil and paper, not from the program.
 */
public final class PromisesTest {
    private static final int LEAST = Integer.MIN_VALUE;
    private static final int MOST = Integer.MAX_VALUE;
    private static final Checks checks = new Checks();

    public static void main(String[] args) {
        newObject();
        feed();
        end();
        yard();
        yardFaults();
        rule();
        ruleFaults();
        ruleWords();
        ruleSums();
        ruleTests();
        force();
        grave();
        stone();
        at();
        root();
        year();
        yearFloods();
        yearPairs();
        yearRounds();
        yearRoots();
        dig();
        pay();
        frost();
        undo();
        ahead();
        fall();
        abreast();
        begin();
        dug();
        sight();
        unpaid();
        look();
        war();
        order();
        seed();
        drawn();
        count();
        image();
        back();
        checks.close("PromisesTest");
    }

    private static void due(String call, long got, long want) {
        checks.due(call, got, want);
    }

    private static void due(String call, boolean got, boolean want) {
        checks.due(call, got, want);
    }

    private static GraveRails of(String yard) {
        return Checks.withYard(yard);
    }

    /** With a RULE IN FORCE. */
    private static GraveRails of(String yard, String rule) {
        GraveRails x = of(yard);
        x.force(Checks.tellRule(x, rule));
        return x;
    }

    private static void pass(GraveRails x, int years) {
        for (int i = 0; i < years; i++) {
            x.year();
        }
    }

    private static void place(String when, GraveRails x, int grave, int lane, int cell) {
        due(when + ": lane of " + grave, x.grave(grave, 0), lane);
        due(when + ": cell of " + grave, x.grave(grave, 1), cell);
    }

    private static int fault(int place, int what) {
        return -2 - (1 + 8 * place + what);
    }

    // ---- promise 1

    private static void newObject() {
        due("NONE", GraveRails.NONE, -1);
        GraveRails x = new GraveRails();
        int[] counts = {0, 0, 0, 0, -1, 0, 0, 0, 0, 0, 0, 0, 0};
        for (int what = 0; what < counts.length; what++) {
            due("new: count " + what, x.count(what), counts[what]);
        }
        due("new: year", x.year(), -1);
        due("new: dig", x.dig(0, 0, 0), -1);
        due("new: pay", x.pay(0), false);
        due("new: frost", x.frost(0), -1);
        due("new: undo", x.undo(), -1);
        due("new: grave", x.grave(0, 0), -2);
        due("new: stone", x.stone(0, 0), -2);
        due("new: at", x.at(0, 0), -2);
        due("new: root", x.root(0, 0), -1);
        due("new: ahead", x.ahead(0, 0, 0), -2);
        due("new: fall", x.fall(0), -1);
        due("new: abreast", x.abreast(0, 1), -1);
        due("new: begin", x.begin(0, 0), -1);
        due("new: dug", x.dug(0, 0, 0, 0), -1);
        due("new: sight", x.sight(0, 0, 0), -2);
        due("new: sight none", x.sight(-1, 0, 0), 0);
        due("new: unpaid", x.unpaid(0), -1);
        due("new: look", x.look(0, 0), -1);
        due("new: war", x.war(1), -1);
        due("new: order", x.order(0), -1);
        due("new: drawn", x.drawn(1, 1, 0, 0), -1);
        due("new: back", x.back(0), -1);
        due("new: force none", x.force(-1), -1);
        due("new: force 0", x.force(0), -2);
        due("new: yard of an empty tape", x.yard(), fault(0, 0));
        due("new: rule of an empty tape", x.rule(), fault(0, 0));
    }

    // ---- promises 2 and 3

    private static void feed() {
        GraveRails x = new GraveRails();
        for (int i = 1; i <= 20; i++) {
            due("feed " + i, x.feed(i, -i, 0, MOST, LEAST), 20 * i);
        }
        due("feed beyond 400", x.feed(1, 2, 3, 4, 5), -1);
        due("feed: none came", x.count(11), 400);
        x.end(381);
        due("feed beyond 400 by one", x.feed(1, 2, 3, 4, 5), -1);
        due("feed: none of them came", x.count(11), 381);
        x.end(380);
        due("feed up to 400", x.feed(1, 2, 3, 4, 5), 400);

        // "yard 2 5;grave 1 3 c" and "hild": the highest byte first, and the next ones behind
        GraveRails y = new GraveRails();
        due("feed text", y.feed(0x79617264, 0x20322035, 0x3b677261, 0x76652031, 0x20332063), 20);
        due("feed text further", y.feed(0x68696c64, 0, 0, 0, 0), 40);
        due("end text", y.end(24), 24);
        due("yard of what was fed", y.yard(), 1);
        due("its lanes", y.count(0), 2);
        due("its cells", y.count(1), 5);
        place("fed", y, 0, 1, 3);
        due("its kind", y.grave(0, 2), 1);

        // bytes above 127 come, and can't stand
        GraveRails z = new GraveRails();
        z.feed(0x79617264, 0x20ff2035, 0, 0, 0);
        z.end(8);
        due("a byte 255", z.yard(), fault(5, 0));
    }

    private static void end() {
        GraveRails x = new GraveRails();
        due("end 0 of none", x.end(0), 0);
        due("end 1 of none", x.end(1), -1);
        x.feed(0, 0, 0, 0, 0);
        due("end 21 of 20", x.end(21), -1);
        due("end below 0", x.end(-1), -1);
        due("end least", x.end(LEAST), -1);
        due("end most", x.end(MOST), -1);
        due("end: nothing happened", x.count(11), 20);
        due("end 20 of 20", x.end(20), 20);
        due("end 7 of 20", x.end(7), 7);
        due("end: seven", x.count(11), 7);
        due("end 8 of 7", x.end(8), -1);
        due("feed behind the seven", x.feed(0, 0, 0, 0, 0), 27);
        due("end 0", x.end(0), 0);
        due("end: none", x.count(11), 0);
    }

    // ---- promise 4

    private static void yard() {
        GraveRails x = new GraveRails();
        due("least yard", Checks.tellYard(x, "yard 1 2"), 0);
        due("least yard: lanes", x.count(0), 1);
        due("least yard: cells", x.count(1), 2);
        due("the tape is empty then", x.count(11), 0);
        due("greatest yard", Checks.tellYard(x, "yard 4 20"), 0);
        due("greatest yard: lanes", x.count(0), 4);
        due("greatest yard: cells", x.count(1), 20);
        due("blanks as one likes", Checks.tellYard(x, "  yard4   20  ;grave 0 0plain;  grave   3 19stands;pair 0 1  "), 2);
        due("digits up to five", Checks.tellYard(x, "yard 00002 00003;grave 00001 00002 child"), 1);
        place("five digits", x, 0, 1, 2);

        String all = "yard 3 9;grave 0 8 plain;grave 1 7 child;grave 2 6 unpaid;grave 0 5 stands;pair 0 2;"
                + "root 0 4 9;root 1 0 1;heavy 1;heavy 1;flood 0;flood 99";
        due("all clauses", Checks.tellYard(x, all), 4);
        for (int g = 0; g < 4; g++) {
            place("all", x, g, g % 3, 8 - g);
            due("all: kind", x.grave(g, 2), g);
            due("all: held", x.grave(g, 3), 0);
            due("all: not fallen", x.grave(g, 4), -1);
            due("all: dug", x.grave(g, 5), 0);
            due("all: pair", x.grave(g, 6), g == 0 ? 2 : g == 2 ? 0 : -1);
            due("all: rounds", x.grave(g, 7), 0);
            due("all: stone's lane", x.stone(g, 0), g % 3);
            due("all: stone's cell", x.stone(g, 1), 8 - g);
            due("all: heavy", x.stone(g, 2), g == 1 ? 1 : 0);
        }
        due("all: root", x.root(0, 4), 9);
        due("all: root", x.root(1, 0), 1);

        // what is replaced, and what stays
        due("a rule", Checks.tellRule(x, "go 1"), 0);
        x.force(0);
        x.seed(77);
        x.sight(0, 1, 1);
        x.year();
        x.image(2);
        due("a fault", Checks.tellYard(x, "yard 3 9 9"), fault(9, 0));
        due("a fault: the tape is empty then, too", x.count(11), 0);
        due("a fault: all else stays", x.count(1), 9);
        due("a fault: YEAR stays", x.count(5), 1);
        due("a fault: SIGHTS stay", x.count(8), 1);
        due("a fault: ACTS stay", x.count(9), 1);
        due("another yard", Checks.tellYard(x, "yard 2 4;grave 0 1 plain"), 1);
        due("another yard: YEAR", x.count(5), 0);
        due("another yard: SIGHTS", x.count(8), 0);
        due("another yard: ACTS", x.count(9), 0);
        due("another yard: undo", x.undo(), -1);
        due("another yard: RULES", x.count(3), 1);
        due("another yard: IN FORCE", x.count(4), 0);
        due("another yard: x", x.count(10), 77);
        due("another yard: no root", x.root(0, 2), 0);
        due("another yard: no heavy", x.stone(0, 2), 0);
        due("another yard: no pair", x.grave(0, 6), -1);
        due("another yard: fell", x.count(6), 0);
        due("another yard: IMAGE stays", x.back(2), 1);
        due("another yard: the first one again", x.count(2), 4);
    }

    private static void yardFault(String text, int place, int what) {
        GraveRails x = new GraveRails();
        due("yard \"" + text + "\"", Checks.tellYard(x, text), fault(place, what));
        due("no yard by \"" + text + "\"", x.count(0), 0);
    }

    private static void yardFaults() {
        yardFault("", 0, 0);
        yardFault("   ", 3, 0);
        yardFault("yard", 4, 0);
        yardFault("yard  ", 6, 0);
        yardFault("yard 4", 6, 0);
        yardFault("yard 4 20;", 10, 0);
        yardFault("yard 4 20;;", 10, 0);
        yardFault(";yard 4 20", 0, 0);
        yardFault("yard 4 20,", 9, 0);
        yardFault("yard 4 20\t", 9, 0);
        yardFault("yard 4 20\0", 9, 0);
        yardFault("Yard 4 20", 0, 0);
        yardFault("yards 4 20", 0, 0);
        yardFault("yar 4 20", 0, 0);
        yardFault("yardz 4 20", 0, 0);
        yardFault("yarda 4 20", 0, 0);
        yardFault("yard{ 4 20", 4, 0);
        yardFault("yard` 4 20", 4, 0);
        yardFault("yard 4/ 20", 6, 0);
        yardFault("yard 4: 20", 6, 0);
        yardFault("yard 0 20", 5, 1);
        yardFault("yard 5 20", 5, 1);
        yardFault("yard 4 1", 7, 1);
        yardFault("yard 4 21", 7, 1);
        yardFault("yard 420", 5, 1);
        yardFault("yard 000001 2", 5, 1);
        yardFault("yard -1 2", 5, 0);
        yardFault("yard 1 2 3", 9, 0);
        yardFault("yard 1 2 grave 0 0 plain", 9, 0);
        yardFault("grave 0 0 plain", 0, 4);
        yardFault(" flood 1;yard 1 2", 1, 4);
        yardFault("plain", 0, 0);
        yardFault("yard 1 2;yard 1 2", 9, 4);
        yardFault("yard 1 2; graves 0 0 plain", 10, 0);
        yardFault("yard 2 3;grave 2 0 plain", 15, 1);
        yardFault("yard 2 3;grave 1 3 plain", 17, 1);
        yardFault("yard 2 3;grave 1 2", 18, 0);
        yardFault("yard 2 3;grave 1 2 plane", 19, 0);
        yardFault("yard 2 3;grave 1 2 heavy", 19, 0);
        yardFault("yard 2 3;grave 1 2 plainer", 19, 0);
        yardFault("yard 2 3;grave 1 2 plain stands", 25, 0);
        yardFault("yard 2 3;grave plain", 15, 0);
        yardFault("yard 2 3;grave 1 2 plain;grave 0 2 plain;grave 1 2 child", 49, 1);
        String two = "yard 2 3;grave 0 0 plain;grave 0 1 plain;grave 0 2 plain;";
        yardFault(two + "pair 3 0", two.length() + 5, 1);
        yardFault(two + "pair 0 3", two.length() + 7, 1);
        yardFault(two + "pair 0 0", two.length() + 7, 1);
        yardFault(two + "pair 0", two.length() + 6, 0);
        yardFault(two + "pair 0 1;pair 1 2", two.length() + 14, 1);
        yardFault(two + "pair 0 1;pair 2 0", two.length() + 16, 1);
        yardFault(two + "heavy 3", two.length() + 6, 1);
        yardFault(two + "heavy", two.length() + 5, 0);
        yardFault("yard 2 3;heavy 0", 15, 1);
        yardFault("yard 2 3;pair 0 1", 14, 1);
        yardFault("yard 2 3;root 2 0 1", 14, 1);
        yardFault("yard 2 3;root 0 3 1", 16, 1);
        yardFault("yard 2 3;root 0 0 0", 18, 1);
        yardFault("yard 2 3;root 0 0 10", 18, 1);
        yardFault("yard 2 3;root 0 0", 17, 0);
        yardFault("yard 2 3;root 0 0 1;root 1 0 1;root 0 0 1", 38, 1);
        yardFault("yard 2 3;flood 100", 15, 1);
        yardFault("yard 2 3;flood 7;flood 8;flood 7", 31, 1);
        yardFault("yard 2 3;flood 7;flood 00007", 23, 1);
        yardFault("yard 2 3;flood", 14, 0);

        StringBuilder graves = new StringBuilder("yard 1 20");
        for (int i = 0; i < 10; i++) {
            graves.append(";grave 0 ").append(i).append(" plain");
        }
        due("ten graves", of(graves.toString()).count(2), 10);
        yardFault(graves + "; grave 0 15 plain", graves.length() + 2, 4);
        yardFault(graves + "; gravel", graves.length() + 2, 0);
        due("ten graves and more", Checks.tellYard(new GraveRails(), graves + ";heavy 9;pair 8 9"), 10);

        StringBuilder roots = new StringBuilder("yard 1 20");
        StringBuilder floods = new StringBuilder("yard 1 20");
        for (int i = 0; i < 6; i++) {
            roots.append(";root 0 ").append(i).append(" 9");
            floods.append(";flood ").append(i);
        }
        due("six roots", of(roots.toString()).root(0, 5), 9);
        yardFault(roots + ";root 0 6 9", roots.length() + 1, 4);
        due("six floods", Checks.tellYard(new GraveRails(), floods.toString()), 0);
        yardFault(floods + ";flood 6", floods.length() + 1, 4);

        String forty = "yard 1 20;grave 0 0 plain" + ";heavy 0".repeat(38);
        due("forty clauses", Checks.tellYard(new GraveRails(), forty), 1);
        yardFault(forty + ";heavy 0", forty.length() + 1, 4);
        yardFault(forty + ";  yard 1 2", forty.length() + 3, 4);
        yardFault(forty + ";heave 0", forty.length() + 1, 0);
        yardFault(forty + "; ", forty.length() + 2, 0);

        // what was on the TAPE behind its end is not there any more
        cutYard("yard 1 23", 8, 0);
        cutYard("yard 1 2;    ", 9, fault(9, 0));
        cutYard("yard 1 2  ;heavy", 9, 0);
        cutYard("yard 1 2", 3, fault(0, 0));
        cutYard("yard 1 2", 4, fault(4, 0));
        cutYard("yard 1 2;grave 0 0 plain", 21, fault(19, 0));
        GraveRails cut = new GraveRails();
        Checks.type(cut, "go 1 if 2<=3");
        cut.end(10);
        due("cut behind <", cut.rule(), fault(10, 0));

        String whole = "yard 1 20;grave 0 0 plain" + " ".repeat(375);
        due("400 bytes", Checks.tellYard(new GraveRails(), whole), 1);
        yardFault("yard 1 2;" + " ".repeat(391), 400, 0);
    }

    private static void cutYard(String text, int n, int want) {
        GraveRails x = new GraveRails();
        Checks.type(x, text);
        x.end(n);
        due("yard of " + n + " of \"" + text + "\"", x.yard(), want);
    }

    // ---- promise 5

    private static void rule() {
        GraveRails x = new GraveRails();
        for (int i = 0; i < 6; i++) {
            due("rule " + i, Checks.tellRule(x, "go " + i), i);
            due("the tape is empty then", x.count(11), 0);
        }
        Checks.type(x, "go 7");
        due("a seventh rule", x.rule(), -1);
        due("nothing happens: the tape", x.count(11), 4);
        due("nothing happens: rules", x.count(3), 6);

        GraveRails y = new GraveRails();
        due("a fault", Checks.tellRule(y, "go"), fault(2, 0));
        due("the tape is empty after a fault", y.count(11), 0);
        due("no rule", y.count(3), 0);
        due("the first rule", Checks.tellRule(y, "go 3"), 0);
        due("a fault again", Checks.tellRule(y, "go 1;go x"), fault(8, 0));
        due("a second rule", Checks.tellRule(y, "go 4"), 1);
        Checks.tellYard(y, "yard 1 20;grave 0 19 plain");
        y.force(0);
        y.year();
        place("the first rule is as it was", y, 0, 0, 16);
        y.force(1);
        y.year();
        place("the second one", y, 0, 0, 12);
    }

    private static void ruleFault(String text, int place, int what) {
        GraveRails x = new GraveRails();
        due("rule \"" + text + "\"", Checks.tellRule(x, text), fault(place, what));
    }

    private static void ruleFine(String text) {
        due("rule \"" + text + "\"", Checks.tellRule(new GraveRails(), text), 0);
    }

    private static void ruleFaults() {
        ruleFine("go 1");
        ruleFine("go1if1<2");
        ruleFine("  go 1+  2*lane if[not cell<=1or age>=2]and year=3;go 99999  ");
        ruleFine("go 00001");
        ruleFault("", 0, 0);
        ruleFault("  ", 2, 0);
        ruleFault("go", 2, 0);
        ruleFault("go ", 3, 0);
        ruleFault("stop 1", 0, 0);
        ruleFault("go1;", 4, 0);
        ruleFault("go 1;;go 1", 5, 0);
        ruleFault("go 1; stop", 6, 0);
        ruleFault("goage", 0, 0);
        ruleFault("goz 1", 0, 0);
        ruleFault("go 1 ifz 1<2", 5, 0);
        ruleFault("go 100000", 3, 1);
        ruleFault("go 000001", 3, 1);
        ruleFault("go 1 000001", 5, 0);
        ruleFault("go 1 2", 5, 0);
        ruleFault("go 1 lane", 5, 0);
        ruleFault("go plain", 3, 0);
        ruleFault("go stands", 3, 0);
        ruleFault("go lanes", 3, 0);
        ruleFault("go Lane", 3, 0);
        ruleFault("go -1", 3, 0);
        ruleFault("go 1+", 5, 0);
        ruleFault("go 1+*2", 5, 0);
        ruleFault("go 1+[2]", 5, 0);
        ruleFault("go [1]", 3, 0);
        ruleFault("go if 1<2", 3, 0);
        ruleFault("go 1 if", 7, 0);
        ruleFault("go 1 if 2", 9, 0);
        ruleFault("go 1 if 2;go 1", 9, 0);
        ruleFault("go 1 if 2 and 3<4", 10, 0);
        ruleFault("go 1 if 2<", 10, 0);
        ruleFault("go 1 if 2< =3", 11, 0);
        ruleFault("go 1 if 2=<3", 10, 0);
        ruleFault("go 1 if 2==3", 10, 0);
        ruleFault("go 1 if 2<>3", 10, 0);
        ruleFault("go 1 if 2<3<4", 11, 0);
        ruleFault("go 1 if 2<3 and", 15, 0);
        ruleFault("go 1 if 2<3 or or", 15, 0);
        ruleFault("go 1 if 2<3 if 2<3", 12, 0);
        ruleFault("go 1 if 2<3]", 11, 0);
        ruleFault("go 1 if [2<3", 12, 0);
        ruleFault("go 1 if [2<3;go 1", 12, 0);
        ruleFault("go 1 if []", 9, 0);
        ruleFault("go 1 if [2]<3", 10, 0);
        ruleFault("go 1 if not", 11, 0);
        ruleFault("go 1 if 1<not 2<3", 10, 0);
        ruleFault("go 1 or 2", 5, 0);
        ruleFault("go 1 if 123456<3", 8, 1);
        ruleFault("go 1\n", 4, 0);

        String head = "go 1 if ";
        ruleFine(head + "[".repeat(10) + "1<2" + "]".repeat(10));
        ruleFine(head + "not ".repeat(10) + "1<2");
        ruleFine(head + "[not ".repeat(5) + "1<2" + "]".repeat(5));
        ruleFine(head + "[".repeat(10) + "1<2" + "]".repeat(10) + " and " + "not ".repeat(10) + "1<2 or not not [1<2]");
        ruleFault(head + "[".repeat(11) + "1<2" + "]".repeat(11), 18, 2);
        ruleFault(head + "not ".repeat(11) + "1<2", 48, 2);
        ruleFault(head + "[not ".repeat(5) + " [1<2" + "]".repeat(6), 34, 2);
        ruleFault(head + "[not ".repeat(5) + " not 1<2" + "]".repeat(5), 34, 2);
        ruleFault(head + "[".repeat(10) + "1<2 and not 1<2" + "]".repeat(10), 26, 2);
        ruleFine(head + "[".repeat(9) + "1<2 and not 1<2 or [1=1]" + "]".repeat(9));
        ruleFault(head + "[".repeat(10) + "1<2" + "]".repeat(9), 30, 0);

        String sixty = "go 1" + "+1".repeat(59);
        ruleFine(sixty);
        ruleFault(sixty + "+1", sixty.length() + 1, 3);
        ruleFault(sixty + "- lane", sixty.length() + 2, 3);
        ruleFault(sixty + "+lanes", sixty.length() + 1, 0);
        ruleFault(sixty + "+000001", sixty.length() + 1, 1);
        ruleFault(sixty + ";go 1", sixty.length() + 4, 3);
        String less = "go 1" + "+1".repeat(56);
        ruleFine(less + " if 1<2");
        ruleFault(less + "+1 if 1<2", less.length() + 8, 3);
        ruleFault(less + "+1+1 if 1 < 2", less.length() + 10, 3);
        ruleFault(less + "+1+1+1 if 1<2", less.length() + 10, 3);
        ruleFault(less + ";go 1 if 1<2", less.length() + 11, 3);
        String facts = "go 1+1+1 if 1<2" + " and 1<2".repeat(17) + " or 1=";
        ruleFine(facts + "1");
        ruleFault(facts + "1+1", facts.length() + 2, 3);
        ruleFault(facts + "1 or 1=1", facts.length() + 5, 3);

        String twelve = "go 1" + ";go 1".repeat(11);
        ruleFine(twelve);
        ruleFault(twelve + "; go 1", twelve.length() + 2, 4);
        ruleFault(twelve + ";", twelve.length() + 1, 0);
        ruleFault(twelve + ";gone 1", twelve.length() + 1, 0);
    }

    /** Where a plain grave is (by its STEPS) after a YEAR by "go SUM" in a yard where it begins in 2 19. */
    private static void goes(String rule, int steps) {
        GraveRails x = of("yard 3 20;grave 2 19 plain", rule);
        x.year();
        due("steps by \"" + rule + "\"", 19 - x.grave(0, 1), steps);
    }

    private static void ruleWords() {
        String yard = "yard 4 20;grave 1 4 stands;grave 2 12 child;grave 2 19 unpaid;grave 3 15 unpaid;grave 2 11 stands;"
                + "grave 0 0 plain;pair 1 3;flood 2;flood 3";
        // each word: STEPS of GRAVE 3 (lane 3, cell 15), who is first moved by nobody
        String[] words = {"grave", "lane", "cell-10", "year+1", "age+1", "child+1", "unpaid+1", "pair+5", "ahead+1",
            "behind+1", "flood+1", "fallen+1"};
        int[] steps = {3, 3, 5, 1, 1, 1, 2, 2, 1, 1, 1, 1};
        for (int i = 0; i < words.length; i++) {
            GraveRails x = of(yard, "go " + words[i] + " if grave=3;go 0");
            x.year();
            due("word " + words[i], 15 - x.grave(3, 1), steps[i]);
        }
        // of GRAVE 1, whose pair is farther, STEPS don't go; and GRAVE 3's pair is nearer: less than 0
        GraveRails x = of(yard, "go 3 if pair<0 and pair=0-3;go 0");
        x.year();
        place("pair less than 0", x, 3, 3, 12);
        x.year();
        place("pair 0 of one cell", x, 3, 3, 12);

        x = of("yard 2 10;grave 0 5 plain;grave 1 0 plain;pair 0 1", "go 0-pair if pair<0;go 1-pair if grave=1;go 2");
        place("pair", x, 0, 0, 5);
        x.year();
        place("pair: nearer one stands", x, 1, 1, 0);
        place("pair: by five", x, 0, 0, 0);

        x = of("yard 2 10;grave 0 9 plain;grave 1 0 plain;pair 0 1;flood 0", "go 4 if pair=0;go 1");
        x.year();
        due("the other one fell in the flood", x.grave(1, 4), 0);
        place("pair 0 as that fell", x, 0, 0, 5);

        // ahead, behind: as it is when it is that GRAVE's turn
        x = of("yard 2 10;grave 0 4 plain;grave 0 5 plain;grave 0 8 plain;grave 1 9 plain", "go 3 if ahead=1;go 2*behind");
        x.year();
        place("behind two", x, 0, 0, 0);
        place("ahead none any more, behind one", x, 1, 0, 3);
        place("behind none", x, 2, 0, 8);
        place("behind none in its lane", x, 3, 1, 9);
        x = of("yard 1 10;grave 0 4 stands;grave 0 5 plain;grave 0 0 plain", "go 9 if ahead=1;go 0");
        x.year();
        place("ahead, but no way round", x, 1, 0, 5);
        place("cell 0 has none ahead", x, 2, 0, 0);
        x = of("yard 2 10;grave 0 4 stands;grave 0 5 plain", "go 2 if ahead=1;go 0");
        x.year();
        place("ahead one that stands", x, 1, 1, 3);

        // year, age, flood
        x = of("yard 1 20;grave 0 19 plain;flood 1;flood 3", "go 2 if flood=1;go 0");
        int[] cells = {19, 17, 17, 15, 15};
        for (int i = 0; i < cells.length; i++) {
            x.year();
            place("flood: year " + i, x, 0, 0, cells[i]);
        }
        x = of("yard 2 20;grave 0 19 plain", "go year if year<3;go 0");
        pass(x, 5);
        place("year", x, 0, 0, 16);
        x = of("yard 2 20;grave 0 19 plain", "go age");
        pass(x, 2);
        due("dig", x.dig(1, 19, 0), 1);
        x.year();
        place("age since 0", x, 0, 0, 16);
        place("age since 2", x, 1, 1, 19);
        x.year();
        place("age since 0", x, 0, 0, 13);
        place("age since 2", x, 1, 1, 18);
        due("the year in which it was dug", x.grave(1, 5), 2);

        // fallen: those of this YEAR, too
        x = of("yard 3 9;grave 0 0 plain;grave 1 1 plain;grave 2 8 plain;flood 0", "go fallen");
        due("two by the flood", x.year(), 2);
        place("fallen two", x, 2, 2, 6);
        x = of("yard 3 9;grave 0 0 plain;grave 1 0 plain;grave 2 8 plain", "go fallen*2+1");
        due("two one by one", x.year(), 2);
        place("fallen two", x, 2, 2, 3);

        // kinds: each word of its KIND alone
        x = of("yard 4 9;grave 0 8 plain;grave 1 8 child;grave 2 8 unpaid;grave 3 8 stands", "go 1+child*2+unpaid*4");
        x.year();
        place("plain", x, 0, 0, 7);
        place("child", x, 1, 1, 5);
        place("unpaid", x, 2, 2, 3);
        place("stands", x, 3, 3, 8);
        due("pay", x.pay(2), true);
        x.year();
        place("paid", x, 2, 2, 2);
    }

    private static void ruleSums() {
        goes("go 0", 0);
        goes("go 1", 1);
        goes("go 9", 9);
        goes("go 10", 9);
        goes("go 99999", 9);
        goes("go 1-2", 0);
        goes("go 0-99999", 0);
        goes("go 1+2*3", 7);
        goes("go 2*3+1", 7);
        goes("go 8-3-2", 3);
        goes("go 8-3+2", 7);
        goes("go 9/2/2", 2);
        goes("go 7/2*2", 6);
        goes("go 2*7/2", 7);
        goes("go 17%10%4", 3);
        goes("go 2+17%5*3-1", 7);
        goes("go 1-6/2+4*2-3%2", 5);
        goes("go 5/0", 0);
        goes("go 5%0", 0);
        goes("go 3+5/0+5%0", 3);
        goes("go 4+[1]", 1);
        goes("go 3-7/2", 0);
        // towards 0, and the rest with its sign (by 2 - 9 as a TERM is none: the words are made to be below 0)
        GraveRails x = of("yard 2 20;grave 0 12 plain;grave 1 19 plain;pair 0 1", "go 0-pair/2 if grave=1;go 0");
        x.year();
        place("-7 / 2 is -3", x, 1, 1, 16);
        x = of("yard 2 20;grave 0 12 plain;grave 1 19 plain;pair 0 1", "go 5+pair%4 if grave=1;go 0");
        x.year();
        place("-7 % 4 is -3", x, 1, 1, 17);
        x = of("yard 2 20;grave 0 12 plain;grave 1 19 plain;pair 0 1", "go 20/pair+5 if grave=1;go 0");
        x.year();
        place("20 / -7 is -2", x, 1, 1, 16);
        x = of("yard 2 20;grave 0 12 plain;grave 1 19 plain;pair 0 1", "go 20%pair if grave=1;go 0");
        x.year();
        place("20 % -7 is 6", x, 1, 1, 13);
        // 64 bits: 65536 to the fourth is 0, half of it the least there is
        goes("go 3+65536*65536*65536*65536", 3);
        goes("go 65536*65536*65536*32767", 9);
        goes("go 65536*65536*65536*32768", 0);
        goes("go 65536*65536*65536*32768-1", 9);
        goes("go 4 if 65536*65536*65536*32768<0;go 5", 4);
        x = of("yard 2 20;grave 0 18 plain;grave 1 19 plain;pair 0 1",
                "go 7 if 65536*65536*65536*32768/pair<0 and 65536*65536*65536*32768%pair=0 and pair=0-1;go 0");
        x.year();
        place("the least by -1 goes round", x, 1, 1, 12);
    }

    private static void ruleTests() {
        goes("go 3;go 4", 3);
        goes("go 3 if 1<1;go 4", 4);
        goes("go 3 if 1<1;go 4 if 2<2", 0);
        goes("go 3 if 1<2;go 4", 3);
        goes("go 3 if 1<1;go 4 if 1<2;go 5", 4);
        String[] signs = {"<", "<=", "=", ">=", ">"};
        for (int a = 1; a <= 3; a++) {
            boolean[] holds = {a < 2, a <= 2, a == 2, a >= 2, a > 2};
            for (int i = 0; i < signs.length; i++) {
                goes("go 3 if " + a + signs[i] + "2;go 1", holds[i] ? 3 : 1);
                goes("go 3 if not " + a + signs[i] + "2;go 1", holds[i] ? 1 : 3);
            }
        }
        String t = "1<2";
        String f = "2<1";
        for (int bits = 0; bits < 8; bits++) {
            boolean a = (bits & 1) != 0;
            boolean b = (bits & 2) != 0;
            boolean c = (bits & 4) != 0;
            String sa = a ? t : f;
            String sb = b ? t : f;
            String sc = c ? t : f;
            goes("go 3 if " + sa + " and " + sb + " or " + sc, a && b || c ? 3 : 0);
            goes("go 3 if " + sa + " or " + sb + " and " + sc, a || b && c ? 3 : 0);
            goes("go 3 if [" + sa + " or " + sb + "] and " + sc, (a || b) && c ? 3 : 0);
            goes("go 3 if " + sa + " and [" + sb + " or " + sc + "]", a && (b || c) ? 3 : 0);
            goes("go 3 if not " + sa + " and " + sb, !a && b ? 3 : 0);
            goes("go 3 if not not " + sa + " or not " + sb, a || !b ? 3 : 0);
            goes("go 3 if not [" + sa + " and " + sb + "] and " + sc, !(a && b) && c ? 3 : 0);
            goes("go 3 if " + sa + " or " + sb + " or " + sc, a || b || c ? 3 : 0);
            goes("go 3 if " + sa + " and " + sb + " and " + sc, a && b && c ? 3 : 0);
        }
        goes("go 3 if 1+1*2=3 and 8/2-1>=1*3", 3);
        goes("go 3 if " + "not ".repeat(9) + f, 3);
        goes("go 3 if " + "[".repeat(10) + f + "]".repeat(10) + ";go 2", 2);
    }

    // ---- promise 6

    private static void force() {
        GraveRails x = of("yard 1 20;grave 0 19 plain");
        due("none such", x.force(0), -2);
        Checks.tellRule(x, "go 3");
        Checks.tellRule(x, "go 5");
        due("not in force by itself", x.count(4), -1);
        x.year();
        place("none in force", x, 0, 0, 18);
        due("force 1", x.force(1), -1);
        due("in force", x.count(4), 1);
        x.year();
        place("rule 1", x, 0, 0, 13);
        due("force 2", x.force(2), -2);
        due("force -2", x.force(-2), -2);
        due("force most", x.force(MOST), -2);
        due("force least", x.force(LEAST), -2);
        due("nothing happened", x.count(4), 1);
        due("force 0", x.force(0), 1);
        x.year();
        place("rule 0", x, 0, 0, 10);
        due("force again", x.force(0), 0);
        due("force none", x.force(-1), 0);
        due("none in force", x.count(4), -1);
        x.year();
        place("none in force", x, 0, 0, 9);
        due("was none", x.force(-1), -1);
        due("no ACT", x.count(9), 4);
    }

    // ---- promises 7 to 10

    private static void grave() {
        GraveRails x = of("yard 2 6;grave 0 1 plain;grave 1 5 unpaid;grave 0 5 stands;pair 0 1;root 1 3 4");
        int[][] first = {{0, 1, 0, 0, -1, 0, 1, 0}, {1, 5, 2, 0, -1, 0, 0, 0}, {0, 5, 3, 0, -1, 0, -1, 0}};
        int[][] later = {{0, 1, 0, 0, -1, 0, 1, 0}, {1, 3, 2, 4, -1, 0, 0, 0}, {0, 5, 3, 0, -1, 0, -1, 0}};
        for (int g = 0; g < 3; g++) {
            for (int what = 0; what < 8; what++) {
                due("grave " + g + " " + what, x.grave(g, what), first[g][what]);
            }
        }
        x.year();
        for (int g = 0; g < 3; g++) {
            for (int what = 0; what < 8; what++) {
                due("grave later " + g + " " + what, x.grave(g, what), later[g][what]);
            }
        }
        x.dig(1, 5, 1);
        int[] dug = {1, 5, 1, 0, -1, 1, -1, 0};
        for (int what = 0; what < 8; what++) {
            due("grave dug " + what, x.grave(3, what), dug[what]);
        }
        for (int what : new int[] {-1, 8, MOST, LEAST}) {
            due("grave what " + what, x.grave(0, what), -2);
        }
        for (int g : new int[] {-1, 4, 10, 11, MOST, LEAST}) {
            due("no grave " + g, x.grave(g, 0), -2);
        }
        GraveRails y = of("yard 1 2;grave 0 0 child;grave 0 1 plain;pair 0 1;flood 2");
        due("nobody falls: 0 is held back by its pair", y.year(), 0);
        pass(y, 1);
        due("both by the flood", y.year(), 2);
        int[] fallen = {-1, -1, 1, 0, 2, 0, 1, 0};
        for (int what = 0; what < 8; what++) {
            due("grave fallen " + what, y.grave(0, what), fallen[what]);
        }
    }

    private static void stone() {
        // 0 plain, 1 plain and heavy: both go on by one each YEAR
        GraveRails x = of("yard 3 9;grave 0 3 plain;grave 1 3 plain;grave 2 3 stands;heavy 1");
        int[][] plain = {{0, 2}, {0, 1}, {0, 0}, {-1, -1}, {-1, -1}};
        int[][] heavy = {{1, 2}, {1, 2}, {1, 1}, {1, 1}, {1, 0}, {1, 0}, {-1, -1}, {-1, -1}};
        for (int i = 0; i < 8; i++) {
            x.year();
            due("stone's lane " + i, x.stone(0, 0), plain[Math.min(i, 4)][0]);
            due("stone's cell " + i, x.stone(0, 1), plain[Math.min(i, 4)][1]);
            due("heavy stone's lane " + i, x.stone(1, 0), heavy[i][0]);
            due("heavy stone's cell " + i, x.stone(1, 1), heavy[i][1]);
            due("its stone stays " + i, x.stone(2, 1), 3);
            due("who stands lies there " + i, x.stone(2, 3), 2);
        }
        due("heavy", x.stone(1, 2), 1);
        due("not heavy", x.stone(0, 2), 0);
        due("gone: none lies there", x.stone(0, 3), -1);
        for (int what : new int[] {-1, 4, MOST, LEAST}) {
            due("stone what " + what, x.stone(0, what), -2);
        }
        for (int g : new int[] {-1, 3, 10, 11, MOST, LEAST}) {
            due("no stone " + g, x.stone(g, 0), -2);
        }
        // a child leaves its stone behind; who lies where it is may be another
        GraveRails y = of("yard 1 9;grave 0 8 child;grave 0 5 child", "go 3 if year=0;go 0");
        due("under its own", y.stone(0, 3), 0);
        y.year();
        place("stone lags", y, 0, 0, 5);
        due("stone lags", y.stone(0, 1), 7);
        due("none lies there", y.stone(0, 3), -1);
        pass(y, 2);
        due("at its stone again", y.stone(0, 1), 5);
        due("who lies there", y.stone(0, 3), 0);
        due("stone 1", y.stone(1, 1), 2);
        due("who lies there", y.stone(1, 3), 1);
        y.year();
        due("it stays there", y.stone(0, 1), 5);
        y.dig(0, 7, 0);
        due("a dug one's stone", y.stone(2, 1), 7);
        due("a dug one's stone: lane", y.stone(2, 0), 0);
        due("a dug one's stone: not heavy", y.stone(2, 2), 0);
        // its stone stays in its lane when it goes round
        GraveRails z = of("yard 2 9;grave 1 8 plain;grave 1 7 stands");
        z.year();
        place("round", z, 0, 0, 7);
        due("stone: lane", z.stone(0, 0), 1);
        due("stone: cell", z.stone(0, 1), 7);
        due("stone: another lies there", z.stone(0, 3), 1);
    }

    private static void at() {
        GraveRails x = of("yard 2 5;grave 0 4 plain;grave 1 0 plain");
        due("at", x.at(0, 4), 0);
        due("at", x.at(1, 0), 1);
        due("at none", x.at(1, 4), -1);
        due("at none", x.at(0, 0), -1);
        int[][] without = {{-1, 0}, {2, 0}, {0, -1}, {0, 5}, {LEAST, 0}, {0, MOST}, {-1, -1}, {3, 19}};
        for (int[] n : without) {
            due("at without", x.at(n[0], n[1]), -2);
            due("root without", x.root(n[0], n[1]), -1);
        }
        x.year();
        due("at, gone on", x.at(0, 3), 0);
        due("at, fallen", x.at(1, 0), -1);
        due("at, left", x.at(0, 4), -1);
    }

    private static void root() {
        GraveRails x = of("yard 2 5;root 0 4 9;root 1 0 1;grave 1 1 plain");
        due("root", x.root(0, 4), 9);
        due("root", x.root(1, 0), 1);
        due("no root", x.root(0, 0), 0);
        due("no root", x.root(1, 4), 0);
        pass(x, 2);
        due("YEARS of a root stay", x.root(1, 0), 1);
    }

    // ---- promise 11 and the YEAR

    private static void year() {
        GraveRails x = of("yard 4 9;grave 0 8 plain;grave 1 8 child;grave 2 8 unpaid;grave 3 8 stands");
        due("year", x.year(), 0);
        due("YEAR", x.count(5), 1);
        place("plain", x, 0, 0, 7);
        place("child", x, 1, 1, 6);
        place("unpaid", x, 2, 2, 6);
        place("stands", x, 3, 3, 8);
        pass(x, 3);
        due("two fall: 6 to 0 in three YEARS, then into the sea", x.year(), 2);
        due("fell in", x.grave(1, 4), 4);
        due("fell in", x.grave(2, 4), 4);
        due("fell", x.count(6), 2);
        pass(x, 3);
        due("the plain one", x.year(), 1);
        due("fell in", x.grave(0, 4), 8);
        due("no one more", x.year(), 0);

        // one in the way, nearest the sea first; the gap is there when it is one's turn
        x = of("yard 1 9;grave 0 5 child;grave 0 4 plain;grave 0 2 plain");
        x.year();
        place("first", x, 2, 0, 1);
        place("second", x, 1, 0, 3);
        place("third: behind the second", x, 0, 0, 4);
        // of one CELL the least LANE first: 1 goes round 0 0 ahead of 2
        x = of("yard 3 9;grave 1 4 stands;grave 0 5 plain;grave 1 5 plain;grave 2 5 plain");
        x.year();
        place("lane 0 first", x, 1, 0, 4);
        place("lane 1: 0 4 is taken, 2 4 free still", x, 2, 2, 4);
        place("lane 2: 2 4 is taken", x, 3, 2, 5);
        // from CELL 0 into the sea with STEPS over
        x = of("yard 1 2;grave 0 1 child", "go 9");
        due("it falls once", x.year(), 1);
        due("once", x.count(6), 1);

        x = of("yard 1 2;grave 0 1 stands");
        pass(x, 450);
        due("YEAR", x.count(5), 450);
        pass(x, 548);
        due("YEAR 998", x.year(), 0);
        due("YEAR 999", x.count(5), 999);
        due("at YEAR 999", x.year(), -1);
        due("nothing happens", x.count(5), 999);
        due("ACTS", x.count(9), 20);
        due("undone", x.undo(), 19);
        due("YEAR 998 again", x.count(5), 998);
        due("YEAR 999 again", x.year(), 0);
        due("dig in 999", x.dig(0, 0, 0), 1);
        due("dug in 999", x.grave(1, 5), 999);
        due("what is to come goes on", x.fall(1), 999);
        due("what is to come goes on", x.dig(0, 0, 0), -1);
    }

    private static void yearFloods() {
        GraveRails x = of("yard 4 9;grave 0 0 stands;grave 1 1 plain;grave 2 1 child;grave 3 2 plain;grave 3 0 unpaid;"
                + "pair 0 3;root 1 0 9;flood 0");
        due("in the flood", x.year(), 4);
        due("who was in 2 stays", x.count(6), 4);
        place("and goes on", x, 3, 3, 1);
        due("fell in 0", x.grave(0, 4), 0);
        due("no flood any more", x.year(), 0);
        place("goes on", x, 3, 3, 0);
        // the held ones fall, too, and are held no more
        x = of("yard 1 9;grave 0 2 plain;root 0 1 9;flood 1");
        x.year();
        due("held", x.grave(0, 3), 9);
        due("held", x.count(7), 1);
        due("flood", x.year(), 1);
        due("held no more", x.count(7), 0);
        // by (1) first, those of (2) then: in order
        x = of("yard 3 9;grave 0 2 unpaid;grave 2 1 plain;grave 1 1 plain;grave 2 0 plain;flood 0", "go 9");
        due("first", x.order(0), 3);
        due("second: cell 1, lane 1", x.order(1), 2);
        due("third: cell 1, lane 2", x.order(2), 1);
        due("fourth: by its steps", x.order(3), 0);
        due("all in one YEAR", x.year(), 4);
        // with nobody
        x = of("yard 1 2;flood 0");
        due("nobody", x.year(), 0);
    }

    private static void yearPairs() {
        // the nearer one stays until the other one is as near; then both go on
        GraveRails x = of("yard 2 9;grave 0 3 plain;grave 1 5 plain;pair 0 1");
        x.year();
        place("nearer stays", x, 0, 0, 3);
        place("farther goes", x, 1, 1, 4);
        x.year();
        place("nearer stays", x, 0, 0, 3);
        place("abreast", x, 1, 1, 3);
        x.year();
        place("both go: lane 0 first, by where they are as its turn begins", x, 0, 0, 2);
        place("both go", x, 1, 1, 2);
        // the farther one's two STEPS may make it the nearer one
        x = of("yard 2 9;grave 0 3 plain;grave 1 4 child;pair 1 0");
        x.year();
        place("0 stays", x, 0, 0, 3);
        place("1 goes by", x, 1, 1, 2);
        x.year();
        place("1 stays", x, 1, 1, 2);
        place("0 goes", x, 0, 0, 2);
        // where the other one fell, it goes
        x = of("yard 2 9;grave 0 2 plain;grave 1 1 plain;pair 0 1;flood 0");
        x.year();
        due("fell", x.grave(1, 4), 0);
        place("goes alone", x, 0, 0, 1);
        // the other one, that stands, holds for ever
        x = of("yard 2 9;grave 0 2 plain;grave 1 5 stands;pair 0 1");
        due("for ever", x.fall(0), -2);
    }

    private static void yearRounds() {
        // the LANE one less first
        GraveRails x = of("yard 3 9;grave 1 4 stands;grave 1 5 plain");
        x.year();
        place("one less", x, 1, 0, 4);
        due("once", x.grave(1, 7), 1);
        due("of all", x.count(12), 1);
        // one more, where that is taken, or there is none
        x = of("yard 3 9;grave 1 4 stands;grave 1 5 plain;grave 0 4 stands");
        x.year();
        place("one more", x, 1, 2, 4);
        x = of("yard 3 9;grave 0 4 stands;grave 0 5 plain");
        x.year();
        place("no lane less", x, 1, 1, 4);
        x = of("yard 3 9;grave 2 4 stands;grave 2 5 plain;grave 1 4 stands");
        x.year();
        place("no further", x, 1, 2, 5);
        due("never", x.grave(1, 7), 0);
        x = of("yard 1 9;grave 0 4 stands;grave 0 5 plain");
        x.year();
        place("one lane", x, 1, 0, 5);
        // not round one who does not stand
        x = of("yard 2 9;grave 0 4 plain;grave 1 8 plain;grave 0 5 plain;pair 0 1");
        x.year();
        place("no further", x, 2, 0, 5);
        // a STEP each, and further then; twice in a YEAR
        x = of("yard 2 9;grave 0 4 stands;grave 1 3 stands;grave 0 5 unpaid");
        x.year();
        place("round twice", x, 2, 0, 3);
        due("twice", x.grave(2, 7), 2);
        due("twice of all", x.count(12), 2);
        // into a ROOT
        x = of("yard 2 9;grave 0 4 stands;root 1 4 2;grave 0 5 unpaid");
        x.year();
        place("round into a root", x, 1, 1, 4);
        due("held", x.grave(1, 3), 2);
    }

    private static void yearRoots() {
        GraveRails x = of("yard 1 9;grave 0 6 child;root 0 5 2;root 0 6 9");
        due("told there: not held", x.grave(0, 3), 0);
        x.year();
        place("no further that YEAR", x, 0, 0, 5);
        due("held", x.grave(0, 3), 2);
        due("held, as bits", x.count(7), 1);
        x.year();
        due("one YEAR less", x.grave(0, 3), 1);
        place("held", x, 0, 0, 5);
        x.year();
        due("one YEAR less", x.grave(0, 3), 0);
        place("held", x, 0, 0, 5);
        due("held no more", x.count(7), 0);
        x.year();
        place("goes on", x, 0, 0, 3);
        due("not held again", x.grave(0, 3), 0);
        // a held one of a pair, who is nearer, is held a YEAR less
        x = of("yard 2 9;grave 0 4 plain;grave 1 4 plain;pair 0 1;root 0 3 2");
        pass(x, 2);
        due("held one less", x.grave(0, 3), 1);
        // a rule that says 0 holds no root back
        x = of("yard 1 9;grave 0 4 plain;root 0 3 2", "go 1 if year=0;go 0");
        pass(x, 2);
        due("held one less", x.grave(0, 3), 1);
        // who is dug there is not held
        x = of("yard 1 9;root 0 3 2");
        x.dig(0, 3, 0);
        due("dug there", x.grave(0, 3), 0);
        x.year();
        place("goes", x, 0, 0, 2);
    }

    // ---- promises 12 to 15

    private static void dig() {
        GraveRails x = of("yard 2 6;grave 0 5 plain");
        int[][] without = {{0, 5, 0}, {-1, 0, 0}, {2, 0, 0}, {0, -1, 0}, {0, 6, 0}, {0, 0, -1}, {0, 0, 4},
            {LEAST, 0, 0}, {MOST, 0, 0}, {0, LEAST, 0}, {0, MOST, 0}, {0, 0, LEAST}, {0, 0, MOST}};
        for (int[] n : without) {
            due("dig without these", x.dig(n[0], n[1], n[2]), -1);
        }
        due("nothing happens", x.count(2), 1);
        due("no ACT", x.count(9), 0);
        for (int kind = 0; kind < 4; kind++) {
            due("dig", x.dig(1, kind, kind), 1 + kind);
            due("an ACT", x.count(9), 1 + kind);
            place("dug", x, 1 + kind, 1, kind);
            due("its kind", x.grave(1 + kind, 2), kind);
            due("its stone", x.stone(1 + kind, 1), kind);
            due("its stone", x.stone(1 + kind, 0), 1);
            due("its stone", x.stone(1 + kind, 3), 1 + kind);
        }
        x.year();
        due("where one has gone on", x.dig(0, 5, 0), 5);
        due("in YEAR", x.grave(5, 5), 1);
        due("6", x.dig(0, 0, 0), 6);
        due("7", x.dig(0, 1, 0), 7);
        due("8", x.dig(0, 2, 0), 8);
        due("9", x.dig(0, 3, 0), 9);
        due("an eleventh", x.dig(1, 5, 0), -1);
        pass(x, 1);
        due("an eleventh, when one fell", x.dig(1, 5, 0), -1);
        due("ten", x.count(2), 10);
    }

    private static void pay() {
        GraveRails x = of("yard 4 9;grave 0 8 plain;grave 1 8 child;grave 2 8 unpaid;grave 3 8 stands;grave 3 0 unpaid");
        int[] without = {0, 1, 3, -1, 5, 10, 11, MOST, LEAST};
        for (int g : without) {
            due("pay " + g, x.pay(g), false);
        }
        due("no ACT", x.count(9), 0);
        due("pay", x.pay(2), true);
        due("plain then", x.grave(2, 2), 0);
        due("an ACT", x.count(9), 1);
        due("pay again", x.pay(2), false);
        x.year();
        place("as a plain one", x, 2, 2, 7);
        due("fallen", x.grave(4, 4), 0);
        due("pay a fallen one", x.pay(4), false);
        due("its kind", x.grave(4, 2), 2);
        x.undo();
        x.undo();
        due("unpaid again", x.grave(2, 2), 2);
        due("a dug one", x.dig(0, 0, 2), 5);
        due("pay a dug one", x.pay(5), true);
    }

    private static void frost() {
        GraveRails x = of("yard 3 12;grave 0 2 plain;grave 0 5 stands;grave 0 8 child;grave 0 11 unpaid;grave 1 0 plain;"
                + "grave 1 1 plain;root 0 7 4;root 0 0 3;root 0 1 5");
        for (int lane : new int[] {-1, 3, MOST, LEAST}) {
            due("no lane", x.frost(lane), -1);
        }
        due("none would", x.frost(1), -1);
        due("none lies there", x.frost(2), -1);
        due("no ACT", x.count(9), 0);
        due("frost", x.frost(0), 3);
        place("to the sea, over a root", x, 0, 0, 0);
        due("held where it ends", x.grave(0, 3), 3);
        place("stands", x, 1, 0, 5);
        place("behind who stands", x, 2, 0, 6);
        due("no root", x.grave(2, 3), 0);
        place("behind that one", x, 3, 0, 7);
        due("held there", x.grave(3, 3), 4);
        due("none falls", x.count(6), 0);
        due("YEAR", x.count(5), 0);
        due("an ACT", x.count(9), 1);
        due("stones stay", x.stone(3, 1), 11);
        due("none would any more", x.frost(0), -1);
        due("undo", x.undo(), 0);
        place("undone", x, 3, 0, 11);
        due("undone: not held", x.grave(3, 3), 0);
        // held ones stay, and are in the way; who stays in a root's cell is not held
        x = of("yard 1 12;grave 0 5 plain;root 0 4 5;grave 0 8 plain;grave 0 0 plain;root 0 0 7");
        x.year();
        due("held", x.grave(0, 3), 5);
        due("fallen", x.grave(2, 4), 0);
        due("frost", x.frost(0), 1);
        place("held", x, 0, 0, 4);
        place("behind", x, 1, 0, 5);
        x = of("yard 1 12;grave 0 0 plain;grave 0 1 plain;root 0 0 7;grave 0 3 plain");
        due("frost", x.frost(0), 1);
        due("not held: it did not come", x.grave(0, 3), 0);
        place("in line", x, 2, 0, 2);
        // pairs don't matter
        x = of("yard 2 9;grave 0 3 plain;grave 1 6 plain;pair 0 1");
        due("frost", x.frost(0), 1);
        place("nearer one", x, 0, 0, 0);
        due("only in that lane", x.grave(1, 1), 6);
    }

    private static void undo() {
        GraveRails x = of("yard 2 9;grave 0 4 plain;grave 0 5 stands;grave 0 6 unpaid;root 1 4 3;heavy 0");
        due("none can", x.undo(), -1);
        x.year();
        x.pay(2);
        x.dig(1, 8, 1);
        x.frost(0);
        x.force(-1);
        x.seed(5);
        x.sight(0, 1, 1);
        due("four ACTS", x.count(9), 4);
        due("undo frost", x.undo(), 3);
        place("frost undone", x, 0, 0, 3);
        due("undo dig", x.undo(), 2);
        due("dig undone", x.count(2), 3);
        due("dig undone", x.at(1, 8), -1);
        due("undo pay", x.undo(), 1);
        due("pay undone", x.grave(2, 2), 2);
        place("round in YEAR 0, and one more, into the root", x, 2, 1, 4);
        due("held", x.grave(2, 3), 3);
        due("round", x.count(12), 1);
        due("undo year", x.undo(), 0);
        place("year undone", x, 0, 0, 4);
        place("year undone", x, 2, 0, 6);
        due("year undone", x.count(5), 0);
        due("year undone", x.count(12), 0);
        due("stone undone", x.stone(0, 1), 4);
        due("none can any more", x.undo(), -1);
        due("x stays", x.count(10), 5);
        due("SIGHTS stay", x.count(8), 1);
        // who fell lies again
        GraveRails y = of("yard 1 2;grave 0 0 plain");
        y.year();
        due("fell", y.count(6), 1);
        y.undo();
        due("fell no more", y.count(6), 0);
        due("fell no more", y.grave(0, 4), -1);
        place("lies again", y, 0, 0, 0);
        due("its stone", y.stone(0, 1), 0);
        // the last 20
        GraveRails z = of("yard 1 2");
        pass(z, 25);
        due("20", z.count(9), 20);
        for (int i = 19; i >= 0; i--) {
            due("undo", z.undo(), i);
            due("YEAR", z.count(5), 5 + i);
        }
        due("none", z.undo(), -1);
        due("YEAR", z.count(5), 5);
        pass(z, 3);
        due("three", z.count(9), 3);
        due("undo", z.undo(), 2);
        due("YEAR", z.count(5), 7);
        // the RULE IN FORCE is no ACT's
        GraveRails w = of("yard 1 9;grave 0 8 plain", "go 2");
        w.year();
        w.force(-1);
        w.undo();
        due("IN FORCE stays", w.count(4), -1);
    }

    // ---- promises 16 to 20

    private static void ahead() {
        GraveRails x = of("yard 2 9;grave 0 8 plain;grave 1 8 stands;grave 1 4 child;flood 5");
        for (int n = 0; n <= 8; n++) {
            due("ahead cell " + n, x.ahead(0, n, 1), 8 - n);
            due("ahead lane " + n, x.ahead(0, n, 0), 0);
        }
        due("fallen by then", x.ahead(0, 9, 0), -1);
        due("fallen by then", x.ahead(0, 9, 1), -1);
        due("fallen by then", x.ahead(0, 200, 1), -1);
        due("stands", x.ahead(1, 200, 1), 8);
        due("stands", x.ahead(1, 200, 0), 1);
        due("child", x.ahead(2, 2, 1), 0);
        due("child", x.ahead(2, 3, 1), -1);
        int[][] without = {{-1, 0, 0}, {3, 0, 0}, {0, -1, 0}, {0, 201, 0}, {0, 0, -1}, {0, 0, 2}, {MOST, 0, 0},
            {LEAST, 0, 0}, {0, MOST, 0}, {0, LEAST, 0}, {0, 0, MOST}, {0, 0, LEAST}};
        for (int[] n : without) {
            due("ahead without", x.ahead(n[0], n[1], n[2]), -2);
        }
        due("nothing changes", x.count(5), 0);
        due("nothing changes", x.count(9), 0);
        place("nothing changes", x, 0, 0, 8);
        x.year();
        due("from now on", x.ahead(0, 1, 1), 6);
        due("round", of("yard 2 9;grave 1 8 plain;grave 1 7 stands").ahead(0, 1, 0), 0);
        due("by the rule", of("yard 1 9;grave 0 8 plain", "go 3").ahead(0, 2, 1), 2);
    }

    private static void fall() {
        GraveRails x = of("yard 2 9;grave 0 8 plain;grave 1 8 stands;grave 1 1 plain;grave 1 0 plain;flood 0");
        due("fall", x.fall(0), 8);
        due("never", x.fall(1), -2);
        due("flood", x.fall(2), 0);
        x.year();
        due("has fallen", x.fall(2), 0);
        due("fall", x.fall(0), 8);
        for (int g : new int[] {-1, 4, 10, 11, MOST, LEAST}) {
            due("no grave", x.fall(g), -1);
        }
        // 200 YEARS are looked at: the last one is YEAR 199
        x = of("yard 1 2;grave 0 0 plain", "go 1 if year=199;go 0");
        due("in the last", x.fall(0), 199);
        x = of("yard 1 2;grave 0 0 plain", "go 1 if year=200;go 0");
        due("not in 200", x.fall(0), -2);
        x.year();
        due("in 200 from now on", x.fall(0), 200);
        due("nothing changes", x.count(6), 0);
    }

    private static void abreast() {
        GraveRails x = of("yard 3 9;grave 0 8 plain;grave 1 8 plain;grave 2 6 plain;grave 0 4 stands;grave 0 6 plain");
        due("now", x.abreast(0, 1), 0);
        due("now", x.abreast(2, 4), 0);
        due("never: as fast", x.abreast(1, 2), -2);
        // in YEAR 3 grave 0 goes round into 1 4, ahead of grave 1, that waits in 5 then
        due("stands", x.abreast(3, 1), 5);
        due("stands, the other way", x.abreast(1, 3), 5);
        due("stands", x.abreast(3, 2), 2);
        due("unlike", x.abreast(1, 1), -1);
        int[][] without = {{-1, 0}, {0, -1}, {5, 0}, {0, 5}, {MOST, 0}, {0, LEAST}, {-1, -1}, {10, 11}};
        for (int[] n : without) {
            due("abreast without", x.abreast(n[0], n[1]), -1);
        }
        due("nothing changes", x.count(5), 0);
        // fallen ones aren't abreast
        x = of("yard 2 2;grave 0 0 plain;grave 1 1 child");
        due("fell apart", x.abreast(0, 1), -2);
        x.year();
        x.year();
        due("both fell", x.count(6), 2);
        due("both fell", x.abreast(0, 1), -2);
        // up to 200 YEARS more, as it begins
        x = of("yard 2 9;grave 0 0 stands;grave 1 1 plain", "go 1 if year=199;go 0");
        due("at the begin of 200", x.abreast(0, 1), 200);
        x = of("yard 2 9;grave 0 0 stands;grave 1 1 plain", "go 1 if year=200;go 0");
        due("not at that of 201", x.abreast(0, 1), -2);
        x.year();
        due("from now on", x.abreast(0, 1), 201);
    }

    private static void begin() {
        // a child in 5: 3, 1, the sea in YEAR 2, as a plain one in 2; behind one in 3 or 4 of its own
        // lane it goes more slowly, and falls in one YEAR with it
        GraveRails x = of("yard 2 9;grave 0 5 child");
        due("fall", x.fall(0), 2);
        due("four places", x.begin(0, 0), 4);
        due("first: lane", x.begin(0, 1), 0);
        due("first: cell", x.begin(0, 2), 2);
        due("nothing changes", x.count(2), 1);
        due("nothing changes", x.count(9), 0);
        x = of("yard 1 9;grave 0 5 stands");
        due("does not fall", x.begin(0, 0), 0);
        due("does not fall", x.begin(0, 1), -2);
        due("does not fall", x.begin(0, 2), -2);
        x = of("yard 1 2;grave 0 0 plain");
        due("none where none lies", x.begin(0, 0), 0);
        x.year();
        due("has fallen", x.begin(0, 0), 0);
        due("has fallen", x.begin(0, 1), -2);
        due("has fallen", x.begin(0, 2), -2);
        x = of("yard 3 4;grave 1 2 plain;grave 0 2 stands");
        // from 0 3 round the one that stands it falls in YEAR 3
        due("one place", x.begin(0, 0), 1);
        due("first: lane", x.begin(0, 1), 2);
        due("first: cell", x.begin(0, 2), 2);
        // an eleventh, on paper: nine that stand, and one
        StringBuilder s = new StringBuilder("yard 3 20;grave 0 4 plain");
        for (int i = 0; i < 9; i++) {
            s.append(";grave 2 ").append(10 + i).append(" stands");
        }
        x = of(s.toString());
        due("ten graves", x.count(2), 10);
        due("dig", x.dig(1, 4, 0), -1);
        due("on paper", x.begin(0, 0), 2);
        due("on paper", x.begin(0, 1), 1);
        due("on paper", x.begin(0, 2), 4);
        due("ten still", x.count(2), 10);
        // its number is that of the next one, it is plain, and its age is from now on
        x = of(s.toString(), "go 5 if grave=10 and age=0 and unpaid=0 and child=0;go 1");
        // from 8 it is in 3 after a YEAR, but in lane 0 behind grave 0 in 4
        due("by the rule", x.begin(0, 0), 2);
        due("by the rule", x.begin(0, 1), 1);
        due("by the rule", x.begin(0, 2), 8);
        // 200 YEARS are looked at, the first one is now
        due("in the last", of("yard 2 2;grave 0 0 plain", "go 1 if year=199;go 0").begin(0, 0), 1);
        due("not in 200", of("yard 2 2;grave 0 0 plain", "go 1 if year=200;go 0").begin(0, 0), 0);
        due("in the first", of("yard 2 2;grave 0 0 plain").begin(0, 0), 1);
        int[][] without = {{-1, 0}, {10, 0}, {0, -1}, {0, 3}, {MOST, 0}, {LEAST, 0}, {0, MOST}, {0, LEAST}};
        for (int[] n : without) {
            due("begin without", x.begin(n[0], n[1]), -1);
        }
        // in which that GRAVE falls then: it falls later with one dug in its way
        x = of("yard 1 4;grave 0 3 child", "go 2 if child=1;go 1");
        due("alone", x.fall(0), 1);
        due("behind the new one, in 1 or 2, and in one YEAR with it", x.begin(0, 0), 2);
        due("in 1", x.begin(0, 2), 1);
    }

    private static void dug() {
        GraveRails x = of("yard 2 9;grave 0 8 stands;grave 0 7 plain;flood 0;root 0 6 3;root 1 8 9;heavy 0");
        // a plain one in lane 0: 8, 7, 6 (held 3 YEARS: at 6 by the begin of 2, 3, 4, 5), 5 at 6, ...
        due("at once", x.dug(0, 0, 8, 0), 1);
        due("at once", x.dug(0, 0, 8, 1), 0);
        due("at once", x.dug(0, 0, 8, 2), 0);
        due("7", x.dug(0, 0, 7, 1), 1);
        due("held", x.dug(0, 0, 6, 0), 4);
        due("held", x.dug(0, 0, 6, 1), 2);
        due("held", x.dug(0, 0, 6, 2), 5);
        due("5", x.dug(0, 0, 5, 1), 6);
        due("0", x.dug(0, 0, 0, 1), 11);
        due("0", x.dug(0, 0, 0, 2), 11);
        // a child: 8, 6 (held), 4
        due("child: 7", x.dug(1, 0, 7, 0), 0);
        due("child: 7", x.dug(1, 0, 7, 1), -2);
        due("child: 7", x.dug(1, 0, 7, 2), -2);
        due("child: 6", x.dug(1, 0, 6, 2), 4);
        due("child: 4", x.dug(1, 0, 4, 1), 5);
        due("unpaid: 4", x.dug(2, 0, 4, 1), 5);
        due("unpaid: 7", x.dug(2, 0, 7, 1), -2);
        // in lane 1 the root is where it was dug: not held
        due("lane 1", x.dug(0, 1, 7, 1), 1);
        due("lane 1", x.dug(0, 1, 8, 0), 1);
        int[][] without = {{-1, 0, 0, 0}, {3, 0, 0, 0}, {0, -1, 0, 0}, {0, 2, 0, 0}, {0, 0, -1, 0}, {0, 0, 9, 0},
            {0, 0, 0, -1}, {0, 0, 0, 3}, {MOST, 0, 0, 0}, {0, LEAST, 0, 0}, {0, 0, MOST, 0}, {0, 0, 0, LEAST}};
        for (int[] n : without) {
            due("dug without", x.dug(n[0], n[1], n[2], n[3]), -1);
        }
        // by the rule: GRAVE 0, in YEARS from 0 on, of age as many; 0 to 40 ago; never flooded
        x = of("yard 2 20;grave 0 3 plain;flood 0;flood 7", "go 1 if grave=0 and age=year and flood=0 and behind=0 and year%3=0;go 0");
        pass(x, 5);
        due("three YEARS each", x.dug(0, 1, 18, 0), 3);
        due("three YEARS each", x.dug(0, 1, 18, 1), 1);
        due("three YEARS each", x.dug(0, 1, 18, 2), 3);
        due("up to 40", x.dug(0, 1, 5, 0), 1);
        due("up to 40", x.dug(0, 1, 5, 1), 40);
        due("up to 40", x.dug(0, 1, 6, 0), 3);
        due("beyond 40", x.dug(0, 1, 4, 0), 0);
        due("beyond 40", x.dug(0, 1, 4, 1), -2);
        due("nothing changes", x.count(5), 5);
        due("nothing changes", x.count(2), 1);
        due("for ever", of("yard 1 2", "go 0").dug(0, 0, 1, 0), 41);
        due("for ever", of("yard 1 2", "go 0").dug(0, 0, 1, 2), 40);
    }

    // ---- promises 21 to 23

    private static void sight() {
        GraveRails x = of("yard 2 9;grave 0 8 plain;grave 1 8 stands");
        x.dig(0, 0, 0);
        int[][] without = {{-2, 0, 0}, {2, 0, 0}, {3, 0, 0}, {0, -1, 0}, {0, 9, 0}, {0, 0, -1}, {0, 0, 100},
            {MOST, 0, 0}, {LEAST, 0, 0}, {0, MOST, 0}, {0, LEAST, 0}, {0, 0, MOST}, {0, 0, LEAST}};
        for (int[] n : without) {
            due("sight without", x.sight(n[0], n[1], n[2]), -2);
        }
        due("nothing happens", x.count(8), 0);
        for (int i = 1; i <= 10; i++) {
            due("sight", x.sight(i % 2, 8, i == 10 ? 99 : 0), i);
        }
        due("an eleventh", x.sight(0, 8, 0), -2);
        due("ten", x.count(8), 10);
        due("none then", x.sight(-1, LEAST, MOST), 0);
        due("none", x.count(8), 0);
        due("no ACT", x.count(9), 1);
        due("anew", x.sight(0, 0, 99), 1);
    }

    private static void unpaid() {
        // 0 and 1 are open, 2 is a child, 3 stands
        GraveRails x = of("yard 4 9;grave 0 8 plain;grave 1 8 unpaid;grave 2 8 child;grave 3 8 stands");
        due("all sets", x.unpaid(0), 4);
        due("in all", x.unpaid(1), 0);
        due("in none", x.unpaid(2), 0);
        x.sight(0, 6, 1);
        due("0 was unpaid", x.unpaid(0), 2);
        due("0 was unpaid", x.unpaid(1), 1);
        due("0 was unpaid", x.unpaid(2), 0);
        x.sight(1, 6, 2);
        due("1 was not", x.unpaid(0), 1);
        due("1 was not", x.unpaid(1), 1);
        due("1 was not", x.unpaid(2), 2);
        x.sight(2, 4, 2);
        due("a child in 4", x.unpaid(0), 1);
        x.sight(2, 5, 1);
        due("not in 5", x.unpaid(0), 0);
        due("no set", x.unpaid(1), 0);
        due("no set", x.unpaid(2), 0);
        x.sight(-1, 0, 0);
        due("no SIGHTS", x.unpaid(0), 4);
        x.sight(3, 8, 99);
        due("stands", x.unpaid(0), 4);
        for (int what : new int[] {-1, 3, MOST, LEAST}) {
            due("unpaid what", x.unpaid(what), -1);
        }
        // from the begin of the YARD on, as the text told it, whatever was done since
        x.sight(-1, 0, 0);
        x.sight(1, 4, 2);
        x.pay(1);
        pass(x, 3);
        x.dig(1, 5, 3);
        x.frost(0);
        due("as told", x.unpaid(0), 2);
        due("as told", x.unpaid(1), 2);
        // who fell is in no CELL
        x = of("yard 1 2;grave 0 0 plain");
        x.sight(0, 0, 1);
        due("fell", x.unpaid(0), 0);
        x.sight(-1, 0, 0);
        x.sight(0, 0, 0);
        due("at the begin of 0", x.unpaid(0), 2);
        // by the RULE IN FORCE, and anew when that is another one
        x = of("yard 1 20;grave 0 19 plain", "go 3 if unpaid=1;go 2");
        x.sight(0, 13, 2);
        due("by the rule", x.unpaid(1), 1);
        x.force(-1);
        due("without it", x.unpaid(0), 0);
        x.force(0);
        due("by the rule again", x.unpaid(0), 1);
        x.image(0);
        x.sight(0, 15, 2);
        due("both can't be", x.unpaid(0), 0);
        x.back(0);
        due("gone back", x.unpaid(0), 1);
        // floods, pairs, roots and who is in whose way
        x = of("yard 2 9;grave 0 3 plain;grave 1 8 plain;flood 1");
        x.sight(0, 1, 2);
        due("a plain one would be in 1 then; an unpaid one fell", x.unpaid(2), 1);
        x = of("yard 1 9;grave 0 6 plain;grave 0 8 plain");
        x.sight(1, 7, 1);
        due("1 in 7: plain, or unpaid behind a plain 0? 8 to 6 is free by then", x.unpaid(0), 2);
        due("1 was plain", x.unpaid(2), 2);
        // no open ones
        x = of("yard 1 9;grave 0 6 child");
        due("one set, of none", x.unpaid(0), 1);
        due("in all", x.unpaid(1), 0);
        due("in none", x.unpaid(2), 0);
        due("no graves", of("yard 1 2").unpaid(0), 1);
        // ten
        StringBuilder s = new StringBuilder("yard 1 20");
        for (int i = 0; i < 10; i++) {
            s.append(";grave 0 ").append(i).append(i % 2 == 0 ? " plain" : " unpaid");
        }
        x = of(s.toString());
        due("1024", x.unpaid(0), 1024);
        x.sight(9, 9, 0);
        due("1024", x.unpaid(0), 1024);
        x.sight(9, 8, 1);
        due("two STEPS only if 1 to 9 all were unpaid", x.unpaid(0), 1022);
    }

    private static void look() {
        GraveRails x = of("yard 4 9;grave 0 8 stands;grave 1 8 plain;grave 2 8 unpaid;grave 3 8 child");
        due("YEAR 0: all alike", x.look(0, 0), 0);
        due("YEAR 0: all alike", x.look(0, 1), 4);
        due("YEAR 1: the least of 1 and 2", x.look(1, 0), 1);
        due("YEAR 1", x.look(1, 1), 2);
        due("YEAR 99: all fell or stand", x.look(99, 0), 0);
        due("YEAR 99", x.look(99, 1), 4);
        due("YEAR 5: fell or not", x.look(5, 0), 1);
        due("YEAR 5", x.look(5, 1), 2);
        x.sight(1, 6, 1);
        due("1 is known", x.look(1, 0), 2);
        due("1 is known", x.look(1, 1), 1);
        x.sight(2, 6, 1);
        due("all are known", x.look(1, 0), 0);
        due("all are known", x.look(1, 1), 1);
        x.sight(2, 5, 1);
        due("no set", x.look(1, 0), -2);
        due("no set", x.look(1, 1), -2);
        int[][] without = {{-1, 0}, {100, 0}, {0, -1}, {0, 2}, {MOST, 0}, {LEAST, 0}, {0, MOST}, {0, LEAST}};
        for (int[] n : without) {
            due("look without", x.look(n[0], n[1]), -1);
        }
        due("no GRAVE", of("yard 1 2").look(0, 0), -2);
        due("no GRAVE", of("yard 1 2").look(0, 1), -2);
        GraveRails y = of("yard 1 2");
        y.dig(0, 0, 0);
        due("no GRAVE of the text", y.look(0, 0), -2);
        // ten, the last one in the last CELL
        StringBuilder s = new StringBuilder("yard 4 20");
        for (int i = 0; i < 10; i++) {
            s.append(";grave ").append(i % 4).append(' ').append(10 + i).append(" stands");
        }
        y = of(s.toString());
        due("ten that stand", y.look(0, 0), 0);
        due("ten that stand", y.look(99, 0), 0);
        due("ten that stand", y.look(0, 1), 1);
        // of the text, not of now
        y = of("yard 2 9;grave 0 8 plain;grave 1 8 plain");
        y.dig(0, 7, 3);
        pass(y, 20);
        due("of the text", y.look(1, 0), 0);
        due("of the text", y.look(1, 1), 2);
        // asked again for one YEAR when other things are told
        y.sight(0, 6, 1);
        due("0 is known", y.look(1, 0), 1);
        due("0 is known", y.look(1, 1), 1);
        Checks.tellYard(y, "yard 1 9;grave 0 8 child;grave 0 3 plain");
        due("another yard", y.look(1, 0), 1);
        y.force(Checks.tellRule(y, "go 0"));
        due("by a rule", y.look(1, 0), 0);
        // by CELLS: who is behind both tells most
        y = of("yard 1 20;grave 0 10 plain;grave 0 13 plain");
        due("0 parts in two", y.look(4, 1), 2);
        y = of("yard 1 20;grave 0 4 plain;grave 0 16 plain", "go 1+unpaid");
        due("by the rule", y.look(2, 0), 0);
        // 0: sea in YEAR 4 or 2; at the begin of 5 it fell in both; 1 parts still
        due("fell in all", y.look(5, 0), 1);
        due("fell in all", y.look(5, 1), 2);
        y.force(Checks.tellRule(y, "go 1 if grave=0;go 1+fallen"));
        due("no rule of unpaid: all alike", y.look(5, 1), 4);
    }

    // ---- promises 24 to 28

    private static void war() {
        GraveRails x = of("yard 3 4;grave 0 3 plain;grave 1 3 stands;grave 2 0 plain");
        due("one YEAR", x.war(1), 1);
        due("two YEARS", x.war(2), 3);
        due("fifty", x.war(50), 1 + 49 * 2);
        for (int n : new int[] {0, -1, 51, MOST, LEAST}) {
            due("war without", x.war(n), -1);
        }
        due("nothing changes", x.count(5), 0);
        x.year();
        due("from now on", x.war(1), 2);
        due("an empty yard", of("yard 4 20").war(50), 200);
        due("by the rule", of("yard 2 4;grave 0 3 plain", "go 1 if year=1;go 0").war(4), 1 + 1 + 2 + 2);
    }

    private static void order() {
        GraveRails x = of("yard 3 9;grave 0 8 plain;grave 1 8 child;grave 2 0 plain;grave 0 0 plain;grave 1 7 stands");
        due("0: cell 0, lane 0", x.order(0), 3);
        due("1: cell 0, lane 2", x.order(1), 2);
        due("2: the child goes round", x.order(2), 1);
        due("3", x.order(3), 0);
        due("4 does not fall", x.order(4), -2);
        due("far", x.order(MOST), -2);
        due("10", x.order(10), -2);
        due("11", x.order(11), -2);
        due("below 0", x.order(-1), -1);
        due("least", x.order(LEAST), -1);
        x.year();
        due("of those that have not fallen", x.order(0), 1);
        due("of those that have not fallen", x.order(1), 0);
        due("of those that have not fallen", x.order(2), -2);
        due("nothing changes", x.count(6), 2);
        due("no graves", of("yard 1 2").order(0), -2);
        due("in the last YEAR", of("yard 1 2;grave 0 0 plain", "go 1 if year=199;go 0").order(0), 0);
        due("not in 200", of("yard 1 2;grave 0 0 plain", "go 1 if year=200;go 0").order(0), -2);
    }

    private static void seed() {
        GraveRails x = new GraveRails();
        due("0 at first", x.seed(5), 0);
        due("was", x.seed(MOST), 5);
        due("x", x.count(10), MOST);
        due("below 0", x.seed(-1), -1);
        due("least", x.seed(LEAST), -1);
        due("nothing happens", x.count(10), MOST);
        due("was", x.seed(0), MOST);
        due("no ACT", x.count(9), 0);
    }

    /** DRAWS of x = 0: 12345 is 0; then 21468, 9988, 22117, 3498, 16927, 16045, 19741, 12122, 8410 (as is well known). */
    private static void drawn() {
        GraveRails x = of("yard 1 20;grave 0 1 stands");
        due("p 0: none", x.drawn(1, 60, 0, 0), 0);
        due("draw 0 is below 1", x.drawn(1, 1, 1, 0), 1);
        due("draw 0 is below 1", x.drawn(1, 1, 1, 1), 1);
        due("x as it was", x.count(10), 0);
        due("nothing stays", x.count(6), 0);
        due("nothing stays", x.count(5), 0);
        // the second time it is 21468: 68, the third 9988: 88, the fourth 22117: 17
        due("twice, below 68", x.drawn(2, 1, 68, 0), 1);
        due("twice, below 69", x.drawn(2, 1, 69, 0), 2);
        due("thrice, below 88", x.drawn(3, 1, 88, 0), 2);
        due("thrice, below 89", x.drawn(3, 1, 89, 0), 3);
        due("four times, below 18", x.drawn(4, 1, 18, 0), 2);
        due("p 100: always", x.drawn(10, 1, 100, 1), 10);
        x.seed(1103527590 & MOST);
        due("from x on", x.drawn(1, 1, 100, 0), 1);
        x.seed(MOST);
        // 2147483647 * 1103515245 + 12345 is -1103515245 + 12345 of 2147483648: 1043980748, by 65536: 15929: 29
        due("from the greatest x on", x.drawn(1, 1, 29, 0), 0);
        due("from the greatest x on", x.drawn(1, 1, 30, 0), 1);
        int[][] without = {{0, 1, 0, 0}, {11, 1, 0, 0}, {1, 0, 0, 0}, {1, 61, 0, 0}, {1, 1, -1, 0}, {1, 1, 101, 0},
            {1, 1, 0, -1}, {1, 1, 0, 2}, {MOST, 1, 0, 0}, {LEAST, 1, 0, 0}, {1, MOST, 0, 0}, {1, 1, MOST, 0}, {1, 1, 0, LEAST}};
        for (int[] n : without) {
            due("drawn without", x.drawn(n[0], n[1], n[2], n[3]), -1);
        }
        // told floods, too; and those that fall by themselves
        x = of("yard 4 9;grave 0 1 stands;grave 1 0 plain;grave 2 2 plain;flood 1");
        due("told ones", x.drawn(1, 3, 0, 0), 3);
        due("told ones", x.drawn(1, 3, 0, 1), 2);
        due("three times", x.drawn(3, 3, 0, 0), 9);
        due("three times", x.drawn(3, 3, 0, 1), 6);
        x.year();
        due("from now on", x.drawn(1, 1, 0, 0), 2);
        due("those that fell before don't count", x.drawn(2, 60, 100, 0), 4);
        // a drawn one is a YEAR of FLOOD to the RULE
        x = of("yard 1 9;grave 0 8 plain", "go 9*flood");
        due("flood in the rule", x.drawn(1, 1, 100, 0), 1);
        due("flood in the rule: not by it", x.drawn(1, 1, 100, 1), 0);
        due("no flood", x.drawn(1, 60, 0, 0), 0);
    }

    private static void count() {
        GraveRails x = of("yard 3 7;grave 0 0 plain;grave 1 4 child;grave 1 3 stands;grave 2 6 plain;root 2 5 4");
        Checks.tellRule(x, "go 1");
        Checks.tellRule(x, "go 1 + unpaid + child");
        x.force(1);
        x.seed(99);
        x.sight(0, 0, 0);
        x.sight(3, 5, 2);
        x.year();
        x.dig(0, 6, 2);
        x.feed(1, 2, 3, 4, 5);
        int[] counts = {3, 7, 5, 2, 1, 1, 1, 8, 2, 2, 99, 20, 1};
        for (int what = 0; what < counts.length; what++) {
            due("count " + what, x.count(what), counts[what]);
        }
        for (int what : new int[] {-1, 13, MOST, LEAST}) {
            due("count " + what, x.count(what), -1);
        }
    }

    // ---- promises 29 and 30

    private static void image() {
        GraveRails x = new GraveRails();
        for (int k : new int[] {-1, 4, MOST, LEAST}) {
            due("another image", x.image(k), -1);
            due("another back", x.back(k), -1);
        }
        due("where nothing was told", x.image(0), 0);
        Checks.tellYard(x, "yard 2 9;grave 0 8 plain");
        pass(x, 3);
        due("YEAR", x.image(3), 3);
        due("YEAR", x.image(1), 3);
        due("ACTS stay", x.count(9), 3);
        due("never made", x.back(2), -1);
        due("nothing happens", x.count(9), 3);
        x.year();
        due("made anew", x.image(1), 4);
        due("back", x.back(3), 3);
        due("back", x.back(1), 4);
        due("back to nothing", x.back(0), 0);
        due("no yard", x.count(0), 0);
        due("no yard", x.count(2), 0);
        due("no yard", x.year(), -1);
        due("back again", x.back(3), 3);
        due("yard again", x.count(2), 1);
    }

    private static void back() {
        GraveRails x = of("yard 2 9;grave 0 4 plain;grave 0 3 stands;grave 0 8 unpaid;root 0 6 4;heavy 0;pair 1 2;flood 9");
        Checks.tellRule(x, "go 1");
        x.force(0);
        x.seed(12);
        x.sight(0, 4, 0);
        pass(x, 2);
        x.dig(1, 8, 1);
        x.image(0);
        int[] was = new int[13];
        for (int what = 0; what < 13; what++) {
            was[what] = x.count(what);
        }
        int fall = x.fall(3);
        // all is another now
        x.frost(0);
        x.year();
        x.pay(2);
        x.force(-1);
        x.seed(13);
        x.sight(0, 4, 1);
        x.sight(0, 4, 2);
        Checks.tellRule(x, "go 2");
        Checks.tellYard(x, "yard 4 20;grave 3 19 child;root 0 6 5");
        x.year();
        Checks.type(x, "go");
        due("back", x.back(0), 2);
        for (int what = 0; what < 13; what++) {
            // the RULES and the TAPE stay, nothing can be UNDONE
            int want = what == 3 ? 2 : what == 11 ? 2 : what == 9 ? 0 : was[what];
            due("back: count " + what, x.count(what), want);
        }
        due("back: undo", x.undo(), -1);
        due("back: root", x.root(0, 6), 4);
        due("back: heavy", x.stone(0, 2), 1);
        due("back: pair", x.grave(1, 6), 2);
        due("back: kind", x.grave(2, 2), 2);
        due("back: dug", x.grave(3, 5), 2);
        due("back: rounds", x.grave(0, 7), 1);
        place("back: cell", x, 0, 1, 2);
        due("back: stone's lane", x.stone(0, 0), 0);
        due("back: stone's cell (heavy: in YEAR 0 alone)", x.stone(0, 1), 3);
        due("back: held", x.grave(2, 3), 4);
        due("back: fall", x.fall(3), fall);
        due("back: SIGHT", x.unpaid(0), 4);
        // its SIGHTS by what they are: 0 was in 4 at the begin of 0, that others took the place of
        x.sight(-1, 0, 0);
        x.sight(2, 7, 1);
        x.sight(2, 3, 1);
        due("other SIGHTS", x.unpaid(0), 0);
        due("back to SIGHTS", x.back(0), 2);
        due("back to SIGHTS", x.unpaid(0), 4);
        x.year();
        due("an ACT", x.count(9), 1);
        due("back again", x.back(0), 2);
        x.sight(-1, 0, 0);
        x.sight(2, 7, 1);
        x.image(1);
        int[][] others = {{0, 7, 1}, {2, 6, 1}, {2, 7, 2}};
        for (int[] n : others) {
            due("a SIGHT that is so", x.unpaid(0), 4);
            x.sight(-1, 0, 0);
            x.sight(n[0], n[1], n[2]);
            due("one that is not", x.unpaid(0), 0);
            x.back(1);
        }
        due("nothing can be UNDONE", x.count(9), 0);
        x.end(0);
    }
}
