import java.util.Random;

/**
 * Runs of calls as they come, right and wrong ones, on an object and on the Model: all answers are
 * alike. The runs are the same each time (fixed seeds). An argument: how many runs.
 */
public final class AgainstModelTest {
    private static final int[] FAR = {-1, -2, 10, 11, 20, 100, 1000, Integer.MAX_VALUE, Integer.MIN_VALUE, 1 << 30, -100000};

    private final Checks checks;
    private final Random random;
    private final Texts texts;
    private final GraveRails x = new GraveRails();
    private final Model m = new Model();
    private final int number;
    private final StringBuilder calls = new StringBuilder();

    private AgainstModelTest(Checks checks, int number) {
        this.checks = checks;
        this.number = number;
        random = new Random(number * 7919L + 13);
        texts = new Texts(random);
    }

    public static void main(String[] args) {
        int runs = args.length > 0 ? Integer.parseInt(args[0]) : 6000;
        Checks checks = new Checks();
        for (int i = 0; i < runs && checks.allRight(); i++) {
            new AgainstModelTest(checks, i).go(i % 50 == 0 ? 500 : 40);
        }
        checks.close("AgainstModelTest");
    }

    private void go(int many) {
        if (random.nextInt(10) > 0) {
            tell(true);
        }
        for (int rules = random.nextInt(3); rules > 0; rules--) {
            tell(false);
            int rule = m.count(3) - 1;
            due("force", x.force(rule), m.force(rule), rule);
        }
        for (int i = 0; i < many && checks.allRight(); i++) {
            call();
        }
        for (int what = -1; what <= 13; what++) {
            due("count", x.count(what), m.count(what), what);
        }
        lookAround();
        if (!checks.allRight()) {
            System.out.println("run " + number + ":\n" + calls);
        }
    }

    private void due(String name, long got, long want, int... args) {
        StringBuilder s = new StringBuilder(name).append('(');
        for (int i = 0; i < args.length; i++) {
            s.append(i > 0 ? ", " : "").append(args[i]);
        }
        calls.append(s).append(") = ").append(got).append('\n');
        checks.due("run " + number + ": " + s + ")", got, want);
    }

    private int n(int least, int most) {
        return random.nextInt(40) == 0 ? FAR[random.nextInt(FAR.length)] : least + random.nextInt(most - least + 1);
    }

    private int grave() {
        return n(0, Math.max(0, m.count(2) - (random.nextInt(20) == 0 ? 0 : 1)));
    }

    private int lane() {
        return n(0, Math.max(0, m.count(0) - 1));
    }

    private int cell() {
        return n(0, Math.max(0, m.count(1) - 1));
    }

    private void tell(boolean yard) {
        String text = yard ? texts.yard() : texts.rule();
        for (int from = 0; from < text.length(); from += 20) {
            int[] a = new int[5];
            for (int i = 0; i < 20 && from + i < text.length(); i++) {
                a[i / 4] |= (text.charAt(from + i) & 255) << 24 - i % 4 * 8;
            }
            due("feed", x.feed(a[0], a[1], a[2], a[3], a[4]), m.feed(a), a);
        }
        if (random.nextInt(200) > 0) {
            due("end", x.end(text.length()), m.end(text.length()), text.length());
        }
        calls.append("// ").append(text).append('\n');
        if (yard) {
            due("yard", x.yard(), m.yard());
        } else {
            due("rule", x.rule(), m.rule());
        }
    }

    private void lookAround() {
        for (int g = 0; g < m.count(2); g++) {
            for (int what = -1; what <= 8; what++) {
                due("grave", x.grave(g, what), m.grave(g, what), g, what);
                due("stone", x.stone(g, what), m.stone(g, what), g, what);
            }
        }
        for (int lane = -1; lane <= m.count(0); lane++) {
            for (int cell = -1; cell <= m.count(1); cell++) {
                due("at", x.at(lane, cell), m.at(lane, cell), lane, cell);
                due("root", x.root(lane, cell), m.root(lane, cell), lane, cell);
            }
        }
    }

    private void call() {
        int a = random.nextInt(100);
        if (a < 40) {
            act(a);
        } else if (a < 90) {
            ask(a);
        } else {
            set(a);
        }
    }

    private void act(int a) {
        if (a < 20) {
            due("year", x.year(), m.year());
        } else if (a < 27) {
            int[] n = {lane(), cell(), n(0, 3)};
            due("dig", x.dig(n[0], n[1], n[2]), m.dig(n[0], n[1], n[2]), n);
        } else if (a < 31) {
            int g = grave();
            due("pay", x.pay(g) ? 1 : 0, m.pay(g) ? 1 : 0, g);
        } else if (a < 35) {
            int lane = lane();
            due("frost", x.frost(lane), m.frost(lane), lane);
        } else {
            due("undo", x.undo(), m.undo());
        }
    }

    private void ask(int a) {
        int g = grave();
        int h = grave();
        int lane = lane();
        int cell = cell();
        int what = n(0, 2);
        if (a < 45) {
            int years = n(0, random.nextInt(2) == 0 ? 12 : 200);
            due("ahead", x.ahead(g, years, what), m.ahead(g, years, what), g, years, what);
        } else if (a < 49) {
            due("fall", x.fall(g), m.fall(g), g);
        } else if (a < 53) {
            due("abreast", x.abreast(g, h), m.abreast(g, h), g, h);
        } else if (a < 55) {
            due("begin", x.begin(g, what), m.begin(g, what), g, what);
        } else if (a < 60) {
            int kind = n(0, 2);
            due("dug", x.dug(kind, lane, cell, what), m.dug(kind, lane, cell, what), kind, lane, cell, what);
        } else if (a < 66) {
            sight(g, cell);
        } else if (a < 69) {
            askSets(what);
        } else if (a < 72) {
            int n = n(1, 50);
            due("war", x.war(n), m.war(n), n);
        } else if (a < 76) {
            int k = n(0, 10);
            due("order", x.order(k), m.order(k), k);
        } else if (a < 80) {
            int[] n = {n(1, 10), n(1, 60), n(0, 100), n(0, 1)};
            due("drawn", x.drawn(n[0], n[1], n[2], n[3]), m.drawn(n[0], n[1], n[2], n[3]), n);
        } else if (a < 83) {
            int w = n(0, 7);
            due("grave", x.grave(g, w), m.grave(g, w), g, w);
        } else if (a < 86) {
            int w = n(0, 3);
            due("stone", x.stone(g, w), m.stone(g, w), g, w);
        } else if (a < 88) {
            due("at", x.at(lane, cell), m.at(lane, cell), lane, cell);
        } else {
            int w = n(0, 12);
            due("count", x.count(w), m.count(w), w);
        }
    }

    /** Half of the SIGHTS are so as the text told it, as else no set would be left soon. */
    private void sight(int g, int cell) {
        if (random.nextInt(12) == 0) {
            due("sight", x.sight(-1, cell, 0), m.sight(-1, cell, 0), -1, cell, 0);
            return;
        }
        int year = random.nextInt(3) > 0 ? n(0, 8) : n(0, 99);
        if (random.nextInt(3) > 0 && m.count(5) == 0 && year >= 0 && year <= 99) {
            cell = Math.max(0, m.ahead(g, year, 1));
        }
        due("sight", x.sight(g, cell, year), m.sight(g, cell, year), g, cell, year);
    }

    /** The Model goes through all sets for 100 YEARS: not too often where there are many. */
    private void askSets(int what) {
        if (m.count(2) > 6 && random.nextInt(12) > 0) {
            return;
        }
        if (random.nextInt(2) == 0) {
            due("unpaid", x.unpaid(what), m.unpaid(what), what);
        } else {
            int year = random.nextInt(3) > 0 ? n(0, 10) : n(0, 99);
            due("look", x.look(year, what), m.look(year, what), year, what);
        }
    }

    private void set(int a) {
        if (a < 92) {
            tell(false);
        } else if (a < 94) {
            int rule = random.nextInt(5) == 0 ? n(-1, 6) : random.nextInt(m.count(3) + 1) - 1;
            due("force", x.force(rule), m.force(rule), rule);
        } else if (a == 94) {
            int k = n(0, 3);
            due("image", x.image(k), m.image(k), k);
        } else if (a == 95) {
            int k = n(0, 3);
            due("back", x.back(k), m.back(k), k);
        } else if (a == 96) {
            int seed = random.nextInt();
            due("seed", x.seed(seed), m.seed(seed), seed);
        } else if (a == 97) {
            int[] n = {random.nextInt(), 0, -1, Integer.MIN_VALUE, 7};
            due("feed", x.feed(n[0], n[1], n[2], n[3], n[4]), m.feed(n), n);
        } else if (a == 98) {
            int n = n(0, random.nextInt(5) == 0 ? 400 : 20);
            due("end", x.end(n), m.end(n), n);
        } else if (random.nextInt(3) == 0) {
            tell(true);
        } else {
            due("end", x.end(0), m.end(0), 0);
        }
    }
}
