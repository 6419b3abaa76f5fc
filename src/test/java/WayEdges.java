/** Part III as far as ROADS go, and promises 23 to 26 and 32. */
final class WayEdges {
    private static final int MAX = Integer.MAX_VALUE;
    private static final int MIN = Integer.MIN_VALUE;
    private static final String TEN = "step a 0;step b 0;step c 0;step d 0;step e 0;step f 0;step g 0;step h 0;step i 0;"
        + "step j 0;";
    private static final String CHAIN = TEN + "road a b;road b c;road c d;road d e;road e f;road f g;road g h;road h i;"
        + "road i j;";

    private WayEdges() { }

    static void look(Edge e) {
        reach(e);
        far(e);
        farAt(e);
        trapped(e);
        best(e);
    }

    private static void reach(Edge e) {
        e.says("III", "REACH: STEPS to which ROADS lead from where it stands (that too);");
        NextSleeper x = e.house(CHAIN);
        for (int step = 0; step < 10; step++) {
            x.set(step);
            e.due("from " + step, x.reach(), 1024 - (1 << step));
        }
        NextSleeper back = e.house(TEN + "road j i;road i h;road h g;road g f;road f e;road e d;road d c;road c b;road b a;"
            + "begins j;");
        e.due("the other way round", back.reach(), 1023);
        NextSleeper ends = e.house("step a 0;step b 0 ends;step c 0;road a b;road b c;begins a;");
        e.due("by ROADS from what ENDS too", ends.reach(), 7);
        ends.set(2);
        e.due("not by an END to BEGINS", ends.reach(), 4);

        e.due("by each ROAD", e.house("step a 0;step b 0;step c 0;step d 0;road a c;road a d;road c b;").reach(), 15);

        e.says("23", "REACH (bits).");
        e.due("no STEPS", new NextSleeper().reach(), 0);
        e.due("no ROADS", e.house(TEN + "begins j;").reach(), 512);
        e.due("a ROAD to itself", e.house("step a 0;step b 0;road a a;road b a;").reach(), 1);
    }

    private static void far(Edge e) {
        e.says("III", "FAR to a STEP: the fewest ROADS;");
        NextSleeper x = e.house(CHAIN);
        for (int step = 0; step < 10; step++) {
            e.due("from a to " + step, x.far(step), step);
        }
        NextSleeper two = e.house(CHAIN + "road a h;road i a;");
        e.due("the fewest", two.far(7), 1);
        e.due("the fewest", two.far(9), 3);
        two.set(7);
        e.due("round about", two.far(6), 8);
        e.due("where it stands, though it could be gone round", two.far(7), 0);

        NextSleeper many = e.house(TEN + "begins j;road j c;road j d;road j b;road c b;road b a;road d a;");
        e.due("by the second ROAD", many.far(0), 2);
        NextSleeper first = e.house("step a 0;step b 0;step c 0;road a c;road a b;road b c;");
        e.due("by the first ROAD", first.far(2), 1);

        e.says("24", "FAR;");
        NextSleeper ends = e.house("step a 0 ends;step b 0;road a b;begins b;");
        ends.set(0);
        e.due("by a ROAD from what ENDS too", ends.far(1), 1);
        e.due("where it stands", ends.far(0), 0);

        e.says("24", "-2: no way;");
        ends.set(1);
        e.due("no ROAD back", ends.far(0), -2);
        x.set(9);
        e.due("no ROAD back", x.far(8), -2);
        e.due("no ROADS", e.house(TEN).far(9), -2);

        e.says("24", "NONE: no such STEP.");
        for (int step : new int[] {10, -1, -2, MAX, MIN}) {
            e.due("far(" + step + ")", x.far(step), -1);
        }
        e.due("no STEPS", new NextSleeper().far(0), -1);
        e.due("no STEPS", new NextSleeper().far(-2), -1);
    }

    private static int[] way(NextSleeper x, int step) {
        int[] all = new int[x.far(step) + 1];
        for (int i = 0; i < all.length; i++) {
            all[i] = x.farAt(step, i);
        }
        return all;
    }

    private static void farAt(Edge e) {
        e.says("III", "the way: from where it stands by the first ROAD by which that can be, and so on.");
        // To f: a, then b, c or d (c first), then e or g (from c g comes first), then f.
        NextSleeper x = e.house("step a 0;step b 0;step c 0;step d 0;step e 0;step f 0;step g 0;road a a;road a c;road a b;"
            + "road a d;road b e;road c a;road c g;road c e;road d e;road e f;road g c;road g f;");
        e.dueRow("to f", way(x, 5), 0, 2, 6, 5);
        e.dueRow("to e", way(x, 4), 0, 2, 4);
        e.dueRow("to d by the last ROAD", way(x, 3), 0, 3);
        x.set(6);
        e.dueRow("from g to b", way(x, 1), 6, 2, 0, 1);

        e.says("25", "The i-th STEP of the way to a STEP (0: where it stands, to FAR);");
        NextSleeper chain = e.house(CHAIN);
        e.dueRow("to j", way(chain, 9), 0, 1, 2, 3, 4, 5, 6, 7, 8, 9);
        e.due("where it stands", chain.farAt(0, 0), 0);
        e.due("farAt(9, 9)", chain.farAt(9, 9), 9);

        e.says("25", "-2: no way;");
        chain.set(5);
        e.due("farAt(4, 0)", chain.farAt(4, 0), -2);
        e.due("farAt(4, 1)", chain.farAt(4, 1), -2);
        e.due("farAt(0, MAX)", chain.farAt(0, MAX), -2);

        e.says("25", "NONE (looked at first): no such STEP, i below 0;");
        int[][] others = {{10, 0}, {-1, 0}, {-2, 0}, {MAX, 0}, {MIN, 0}, {9, -1}, {9, MIN}, {4, -1}, {4, MIN}, {10, -1}};
        for (int[] other : others) {
            e.due("farAt(" + other[0] + ", " + other[1] + ")", chain.farAt(other[0], other[1]), -1);
        }
        e.due("no STEPS", new NextSleeper().farAt(0, 0), -1);

        e.says("25", "NONE: not so many.");
        e.due("farAt(9, 4)", chain.farAt(9, 4), 9);
        e.due("farAt(9, 5)", chain.farAt(9, 5), -1);
        e.due("farAt(5, 1)", chain.farAt(5, 1), -1);
        e.due("farAt(9, 10)", chain.farAt(9, 10), -1);
        e.due("farAt(9, MAX)", chain.farAt(9, MAX), -1);
    }

    private static void trapped(Edge e) {
        e.says("III", "TRAPPED: STEPS from which no ROADS lead to one that ENDS or has no ROAD (itself too).");
        e.due("none", e.house(CHAIN).trapped(), 0);
        e.due("all: the chain comes round", e.house(CHAIN + "road j a;").trapped(), 1023);
        e.due("none: one of it ENDS", e.house(CHAIN.replace("step e 0;", "step e 0 ends;") + "road j a;").trapped(), 0);
        e.due("behind what ENDS it comes round", e.house("step a 0;step b 0 ends;step c 0;road a b;road b c;road c c;")
            .trapped(), 4);
        e.due("into what comes round", e.house("step a 0;step b 0;step c 0;road a b;road b b;").trapped(), 3);
        e.due("one way out is enough", e.house("step a 0;step b 0;step c 0;road a b;road b a;road b c;").trapped(), 0);

        e.says("26", "TRAPPED (bits).");
        e.due("no STEPS", new NextSleeper().trapped(), 0);
        e.due("itself has no ROAD", e.house(TEN).trapped(), 0);
        e.due("the last one", e.house(TEN + "road j j;").trapped(), 512);
        NextSleeper x = e.house("step a 0;step b 0;road b b;");
        x.set(1);
        e.due("wherever it stands", x.trapped(), 2);
    }

    private static void best(Edge e) {
        e.says("III", "BEST in n STEPS (1 .. 60): the most GOOD of all rows of n STEPS from where it stands, that one the first, by"
            + " ROADS, behind an END at BEGINS;");
        NextSleeper x = e.house("step a 1;step b 4;step c -3;step d 9;step f 0 ends;road a b;road a c;road b f;road c d;road d d;"
            + "road f d;begins b;");
        // It stands at b: 4, then f 0 (an END), then b again.
        int[] fromB = {4, 4, 8, 8, 12};
        for (int n = 1; n <= 5; n++) {
            e.due("from b in " + n, x.best(n, 0), fromB[n - 1]);
        }
        e.due("from b in 60", x.best(60, 0), 120);
        x.set(0);
        // By c: 1 - 3 + 9 + 9 ..; by b: 1 + 4 + 0 + 4 ..
        int[] fromA = {1, 5, 7, 16, 25};
        for (int n = 1; n <= 5; n++) {
            e.due("from a in " + n, x.best(n, 0), fromA[n - 1]);
        }
        e.due("from a in 60", x.best(60, 0), 1 - 3 + 58 * 9);
        x.set(4);
        e.due("no ROAD of an END", x.best(2, 0), 4);
        e.due("below 0", e.house("step a -9;road a a;").best(60, 0), -540);

        e.says("III", "the STEP behind the first one by it (of alike ones by the first ROAD).");
        e.due("BEGINS behind an END", x.best(2, 1), 1);
        e.due("BEGINS behind an END", x.best(1, 1), 1);
        x.set(0);
        e.due("in 1 all are alike", x.best(1, 1), 1);
        e.due("in 2 b", x.best(2, 1), 1);
        e.due("in 3 c", x.best(3, 1), 2);
        e.due("in 60 c", x.best(60, 1), 2);
        NextSleeper alike = e.house("step a 0;step b 3;step c 3;step d 3;road a c;road a d;road a b;");
        e.due("of alike ones by the first ROAD, not the first STEP", alike.best(2, 1), 2);
        e.due("no ROAD: BEGINS", e.house("step a 0;step b 0;begins b;").best(9, 1), 1);

        e.says("32", "BEST: what 0 the GOOD, 1 the STEP behind the first one;");
        e.due("best(1, 0)", x.best(1, 0), 1);
        e.due("best(1, 1)", x.best(1, 1), 1);
        e.due("without SLEEPERS, and with", e.house("step a 7;sleeper s 0 1 0;").best(3, 0), 21);

        e.says("32", "-10000: no STEPS, no such ones.");
        e.due("no STEPS", e.house("sleeper s 0 1 0;").best(1, 0), -10000);
        e.due("no STEPS", e.house("sleeper s 0 1 0;").best(1, 1), -10000);
        int[][] others = {{0, 0}, {61, 0}, {-1, 1}, {MAX, 0}, {MIN, 0}, {1, 2}, {1, -1}, {60, MAX}, {60, MIN}};
        for (int[] other : others) {
            e.due("best(" + other[0] + ", " + other[1] + ")", x.best(other[0], other[1]), -10000);
        }
    }
}
