/** Part III as far as hours go by in it, and promises 15 to 22, 27 to 29, 33 and 34. */
final class WouldBeEdges {
    private static final int MAX = Integer.MAX_VALUE;
    private static final int MIN = Integer.MIN_VALUE;
    /** s dreams a, c (an END), a in hours 2 to 4, then b; t sleeps in hours 3 and 4. */
    private static final String HOUSE = HourTest.HOUSE;
    /** Ten STEPS in a row; three SLEEPERS for 2, 1 and 3 hours. */
    private static final String ROW = "step a 0;step b 0;step c 0;step d 0;step e 0;step f 0;step g 0;step h 0;step i 0;"
        + "step j 0;road a b;road b c;road c d;road d e;road e f;road f g;road g h;road h i;road i j;"
        + "sleeper s 9 2 0;sleeper t 9 1 0;sleeper u 9 3 0;";
    private static final String TURNS = "step a 1;step b -5;step c 4;road a b;road b c;road c a;sleeper s 9 1 0;"
        + "sleeper t 9 2 0;";

    private WouldBeEdges() { }

    static void look(Edge e) {
        nothingHappens(e);
        then(e);
        ends(e);
        gains(e);
        lines(e);
        line(e);
        lineAt(e);
        fair(e);
        rests(e);
        round(e);
        needed(e);
        bestBed(e);
        bestStart(e);
        free(e);
        mean(e);
    }

    private static void nothingHappens(Edge e) {
        e.says("III", "What would be (nothing happens), to hour 599 at most.");
        for (int hour : new int[] {0, 3, 590, 600}) {
            NextSleeper x = e.house(HOUSE + "naps 10;seed 3;");
            x.nap(1, 3);
            x.hours(hour);
            x.tell(0, 0, 1);
            String first = Edge.all(x);
            e.due("asked again in hour " + hour, Edge.all(x).equals(first), true);
            e.due("the hour", x.now(4), hour);
            e.due("as far as hour 600", x.then(600, 4), 600);
        }
        NextSleeper last = e.house("step a 1;step b 2;road a b;road b a;sleeper s 23 5 0;");
        last.hours(599);
        e.due("one hour is left: gains", last.gains(0, 600), 1);
        e.due("one hour is left: line to where it stands", last.line(0), 1);
        e.due("one hour is left: line further on", last.line(1), -2);
        e.due("one hour is left: fair", last.fair(0), 1);
        e.due("one hour is left: bestBed", last.bestBed(0, 240, 1), 1);
        e.due("one hour is left: bestBed", last.bestBed(0, 240, 0), 23);
        e.due("one hour is left: bestStart", last.bestStart(240, 1), 2);
        e.due("one hour is left: needed", last.needed(1), -2);
        e.due("one hour is left: free", last.free(0), 0);
        e.due("one hour is left: round", last.round(0), -2);
        e.due("one hour is left: ends", last.ends(), -2);
        e.due("one hour is left: mean", last.mean(10, 300), 0);
        e.due("one hour is left: rests", last.rests(240, -1), 1);
        e.due("one hour is left: rests", last.rests(240, 0), 0);
        last.hours(1);
        e.due("none is left: gains", last.gains(0, 600), 0);
        e.due("none is left: line", last.line(0), -2);
        e.due("none is left: fair", last.fair(0), 0);
        e.due("none is left: bestBed", last.bestBed(0, 240, 1), 0);
        e.due("none is left: bestBed", last.bestBed(0, 240, 0), 0);
        e.due("none is left: bestStart", last.bestStart(240, 0), 0);
        e.due("none is left: needed", last.needed(0), -2);
        e.due("none is left: free", last.free(0), 0);
        e.due("none is left: free", last.free(1), -2);
        e.due("none is left: round", last.round(0), -2);
        e.due("none is left: ends", last.ends(), -2);
        e.due("none is left: mean", last.mean(10, 300), 0);
        e.due("none is left: rests", last.rests(240, -1), 2);
    }

    private static void then(Edge e) {
        e.says("15", "Behind n hours (as far as hour 600): what 0 .. 6 as for now();");
        for (int n : new int[] {0, 1, 2, 3, 24, 599, 600}) {
            NextSleeper x = e.house(HOUSE + "naps 15;seed 8;");
            x.nap(1, 2);
            int[] then = new int[7];
            for (int i = 0; i < 7; i++) {
                then[i] = x.then(n, i);
            }
            x.hours(n);
            e.dueRow("then(" + n + ", ..)", then, Edge.now(x));
        }
        NextSleeper late = e.house(HOUSE);
        late.hours(500);
        e.due("as far as hour 600", late.then(100, 4), 600);
        e.due("beyond it", late.then(101, 4), 600);
        e.due("beyond it", late.then(600, 5) == late.then(100, 5), true);
        e.due("ahead of it", late.then(99, 4), 599);
        e.due("no STEPS", new NextSleeper().then(9, 0), -2);

        e.says("15", "NONE: no such ones (n 0 .. 600).");
        int[][] others = {{-1, 0}, {601, 0}, {MAX, 4}, {MIN, 4}, {0, 7}, {0, -1}, {600, 7}, {5, MAX}, {5, MIN}};
        for (int[] other : others) {
            e.due("then(" + other[0] + ", " + other[1] + ")", e.house(HOUSE).then(other[0], other[1]), -1);
        }
        e.due("then(601, 4) in hour 500", late.then(601, 4), -1);
    }

    private static void ends(Edge e) {
        e.says("16", "Behind how many hours it has ENDED once more;");
        NextSleeper x = e.house(HOUSE);
        e.due("ends()", x.ends(), 4);
        x.hours(3);
        e.due("in the next hour", x.ends(), 1);
        x.hours(1);
        // The next END comes in hour 28.
        e.due("once more", x.ends(), 25);
        e.due("from hour 0 to the very last one", e.house("step a 0;step b 0;road a a;road a b;sleeper s 23 1 0;"
            + "does s = if night<23 then 0 else 1;").ends(), 600);

        e.says("16", "-2: not by hour 600.");
        e.due("never", e.house("step a 0;road a a;sleeper s 0 1 0;").ends(), -2);
        e.due("nobody sleeps", e.house("step a 0;").ends(), -2);
        e.due("no STEPS", e.house("sleeper s 0 1 0;").ends(), -2);
        NextSleeper daily = e.house("step a 0;sleeper s 23 1 0;");
        daily.hours(599);
        e.due("in hour 599", daily.ends(), 1);
        daily.hours(1);
        e.due("hour 600 does not go by", daily.ends(), -2);
        NextSleeper beyond = e.house("step a 0;sleeper s 0 1 0;");
        beyond.hours(577);
        e.due("it would be in hour 600", beyond.ends(), -2);
    }

    private static void gains(Edge e) {
        e.says("17", "GOOD more for a SLEEPER in n hours (0 .. 600, as far as hour 600);");
        NextSleeper x = e.house(HOUSE);
        e.due("gains(0, 0)", x.gains(0, 0), 0);
        e.due("gains(0, 2)", x.gains(0, 2), 0);
        e.due("gains(0, 3)", x.gains(0, 3), 1);
        e.due("gains(0, 4)", x.gains(0, 4), 4);
        e.due("gains(0, 5)", x.gains(0, 5), 5);
        e.due("below 0", e.house("step a -9;road a a;sleeper s 0 1 0;naps 100;").gains(0, 600), -5400);
        x.hours(4);
        e.due("not what they have", x.gains(0, 1), 1);
        e.due("b in hour 26", x.gains(0, 23), -1);
        e.due("t", x.gains(1, 600), 0);
        NextSleeper late = e.house("step a 2;road a a;sleeper s 23 12 0;");
        late.hours(598);
        e.due("as far as hour 600", late.gains(0, 600), 2);

        e.says("17", "-10000: no such ones.");
        int[][] others = {{-1, 0}, {2, 0}, {6, 5}, {0, -1}, {0, 601}, {MAX, 1}, {MIN, 1}, {0, MAX}, {0, MIN}};
        for (int[] other : others) {
            e.due("gains(" + other[0] + ", " + other[1] + ")", x.gains(other[0], other[1]), -10000);
        }
        e.due("no SLEEPERS", e.house("step a 1;").gains(0, 0), -10000);
    }

    private static void lines(Edge e) {
        e.says("III", "LINE to a STEP: all SLEEPERS go to bed one after the other, each once, each for as many hours as told,"
            + " from now on, whoever is asleep now awake first, no BEDS, no NAPS, the first from now on, each next one in the"
            + " hour behind, each DREAMING at once:");
        for (String more : new String[] {"", "naps 100;"}) {
            NextSleeper x = e.house(ROW + more);
            for (int step = 0; step < 10; step++) {
                e.due("six hours in all: line(" + step + ")", x.line(step), step < 6 ? step + 1 : -2);
            }
            x.nap(0, 12);
            x.nap(2, 1);
            e.due("who is asleep sleeps as told", x.line(5), 6);
            e.due("and no longer", x.line(6), -2);
            x.bed(1, 0);
            e.due("no BEDS", x.line(6), -2);
        }
        NextSleeper left = e.house("step a 0;step b 0;road a a;road a b;sleeper s 0 3 0;sleeper t 0 2 0;"
            + "does s = if left<2 then 1 else 0;");
        left.hours(1);
        // s has two hours left now, but sleeps three anew: b behind them, by t.
        e.due("asleep anew", left.line(1), 4);
        e.due("s, then t", left.lineAt(1, 0), 0);
        NextSleeper told = e.house("step a 1;step b 0;road a a;road a b;sleeper s 5 2 0;does s = if mood<5 then 0 else dreamt;");
        told.hours(8);
        // s dreamt a twice: mood 3, then 4, and no more hours.
        e.due("what they dreamt ahead counts", told.line(1), -2);
        told.hours(24);
        // Four times: mood 5 by the first, dreamt 5 leads to b.
        e.due("by mood and dreamt", told.line(1), 2);

        e.says("III", "that order by which the STEP is dreamt soonest: the hours till it is, that one too; of alike ones the first"
            + " by numbers, the first place first.");
        NextSleeper y = e.house("step a 0;step b 0;step c 0;road a b;road a c;road b b;road c c;sleeper s 9 2 0;sleeper t 9 2 0;"
            + "sleeper u 9 2 0;does t = 1;");
        e.due("that one too", y.line(0), 1);
        e.due("b by s", y.line(1), 2);
        e.dueRow("b", order(y, 1), 0, 1, 2);
        e.due("c by t", y.line(2), 2);
        e.dueRow("c", order(y, 2), 1, 0, 2);
        NextSleeper six = e.house("step a 0;step b 0;step c 0;step d 0;road a a;road a b;road b b;road b c;road c c;road c d;"
            + "road d d;sleeper s 9 1 0;sleeper t 9 1 0;sleeper u 9 1 0;sleeper v 9 1 0;sleeper w 9 1 0;sleeper x 9 1 0;"
            + "does x = if at<1 then 1 else 0;does v = if 0<at then 1 else 0;does t = if 1<at then 1 else 0;");
        // x leads from a, v from b and c, t from c: x, v, t, then the first of the others dreams d.
        e.due("line(3)", six.line(3), 4);
        e.dueRow("d", order(six, 3), 5, 3, 1, 0, 2, 4);
        e.due("line(2)", six.line(2), 3);
        e.dueRow("c", order(six, 2), 5, 3, 0, 1, 2, 4);
        e.due("line(1)", six.line(1), 2);
        e.dueRow("b", order(six, 1), 5, 0, 1, 2, 3, 4);
        e.dueRow("a", order(six, 0), 0, 1, 2, 3, 4, 5);
    }

    private static int[] order(NextSleeper x, int step) {
        int[] all = new int[x.count(2)];
        for (int i = 0; i < all.length; i++) {
            all[i] = x.lineAt(step, i);
        }
        return all;
    }

    private static void line(Edge e) {
        e.says("18", "LINE: the hours;");
        NextSleeper x = e.house(ROW);
        e.due("line(0)", x.line(0), 1);
        e.due("line(5)", x.line(5), 6);
        NextSleeper long6 = e.house("step a 0;step b 0;road a a;road a b;sleeper s 9 12 0;sleeper t 9 12 0;sleeper u 9 12 0;"
            + "sleeper v 9 12 0;sleeper w 9 12 0;sleeper x 9 12 0;does s = dreamt/11;");
        e.due("s first", long6.line(1), 12);
        NextSleeper most = e.house("step a 0;step b 0;road a a;road a b;sleeper s 9 12 0;sleeper t 9 12 0;sleeper u 9 12 0;"
            + "sleeper v 9 12 0;sleeper w 9 12 0;sleeper x 9 12 0;does s = if night<2 then 0 else if left<2 then 1 else 0;");
        // s must sleep last but one, in hours 48 to 59, and the next one dreams b in hour 60.
        e.due("as late as 61 hours", most.line(1), 61);
        e.due("s is the 5th", most.lineAt(1, 4), 0);
        e.due("t is the first", most.lineAt(1, 0), 1);
        e.due("x is the last", most.lineAt(1, 5), 5);
        x.hours(598);
        e.due("in hour 599", x.line(1), 2);

        e.says("18", "-2: by none, no SLEEPERS;");
        e.due("to hour 599 at most", x.line(2), -2);
        e.due("not in so many hours", e.house(ROW).line(6), -2);
        e.due("no ROAD", e.house("step a 0;step b 0;sleeper s 0 12 0;").line(1), -2);
        e.due("no SLEEPERS", e.house("step a 0;").line(0), -2);
        x.hours(2);
        e.due("in hour 600", x.line(0), -2);

        e.says("18", "NONE: no such STEP.");
        for (int step : new int[] {-1, -2, 10, MAX, MIN}) {
            e.due("line(" + step + ")", x.line(step), -1);
        }
        e.due("no SLEEPERS either", e.house("step a 0;").line(1), -1);
        e.due("no STEPS", e.house("sleeper s 0 12 0;").line(0), -1);
    }

    private static void lineAt(Edge e) {
        e.says("19", "The i-th SLEEPER of it;");
        NextSleeper x = e.house(ROW);
        e.dueRow("all alike", order(x, 3), 0, 1, 2);
        e.says("19", "NONE (looked at first): no such STEP, i below 0;");
        int[][] others = {{10, 0}, {-1, 0}, {-2, 0}, {MAX, 0}, {MIN, 9}, {0, -1}, {0, MIN}, {6, -1}, {9, MIN}, {10, -1}};
        for (int[] other : others) {
            e.due("lineAt(" + other[0] + ", " + other[1] + ")", x.lineAt(other[0], other[1]), -1);
            e.due("without SLEEPERS", e.house("step a 0;").lineAt(other[0] == 0 ? 0 : 10, other[1]),
                other[0] == 0 && other[1] >= 0 ? -2 : -1);
        }
        e.says("19", "-2 likewise;");
        e.due("by none", x.lineAt(6, 0), -2);
        e.due("by none, and not so many", x.lineAt(6, 3), -2);
        e.due("by none, and not so many", x.lineAt(9, MAX), -2);
        e.due("no SLEEPERS", e.house("step a 0;").lineAt(0, 0), -2);
        e.due("no SLEEPERS", e.house("step a 0;").lineAt(0, MAX), -2);
        e.says("19", "NONE: not so many.");
        e.due("lineAt(5, 2)", x.lineAt(5, 2), 2);
        e.due("lineAt(5, 3)", x.lineAt(5, 3), -1);
        e.due("lineAt(5, 6)", x.lineAt(5, 6), -1);
        e.due("lineAt(5, MAX)", x.lineAt(5, MAX), -1);
    }

    private static void fair(Edge e) {
        e.says("III", "FAIR: that order of a LINE by which GOOD more of whom it brings least is most; of alike ones the first.");
        NextSleeper x = e.house(TURNS);
        // From a: s 1 and t -1, or t -4 and s 4.
        e.due("fair(0) from a", x.fair(0), -1);
        e.due("fair(1) from a", x.fair(1), 0);
        x.set(1);
        // From b: s -5 and t 5, or t -1 and s 1.
        e.due("fair(0) from b", x.fair(0), -1);
        e.due("fair(1) from b", x.fair(1), 1);
        x.set(2);
        // From c: s 4 and t -4, or t 5 and s -5.
        e.due("fair(0) from c", x.fair(0), -4);
        e.due("fair(1) from c", x.fair(1), 0);
        x.set(0);
        x.hours(12);
        // s dreamt a, t nothing: only what is more counts, from b again.
        e.due("GOOD more", x.fair(0), -1);
        e.due("t first", x.fair(1), 1);
        NextSleeper alike = e.house("step a 3;road a a;sleeper s 9 1 0;sleeper t 9 1 0;sleeper u 9 1 0;naps 100;");
        e.due("no NAPS", alike.fair(0), 3);
        e.due("of alike ones the first", alike.fair(1), 0);
        NextSleeper second = e.house("step a -5;step b 1;step c 9;road a b;road b c;road c c;sleeper s 9 1 0;sleeper t 9 2 0;"
            + "sleeper u 9 2 0;");
        // s first has -5, t or u -4: those orders are alike, t, s, u is the first of them.
        e.due("fair(0)", second.fair(0), -4);
        e.due("fair(1)", second.fair(1), 1);

        e.says("20", "FAIR: what 0 GOOD of whom it brings least, 1 the first SLEEPER of it;");
        NextSleeper last = e.house(TURNS);
        last.hours(599);
        last.set(0);
        // In the one hour that is left one has 1, the other nothing.
        e.due("to hour 599", last.fair(0), 0);
        e.due("of alike ones the first", last.fair(1), 0);
        last.set(1);
        e.due("one has -5", last.fair(0), -5);
        e.due("of alike ones the first", last.fair(1), 0);
        e.due("no STEPS", e.house("sleeper s 0 1 0;sleeper t 0 1 0;").fair(0), 0);
        e.due("no STEPS", e.house("sleeper s 0 1 0;sleeper t 0 1 0;").fair(1), 0);
        NextSleeper six = e.house("step a -9;road a a;sleeper s 0 12 0;sleeper t 0 12 0;sleeper u 0 12 0;sleeper v 0 12 0;"
            + "sleeper w 0 12 0;sleeper x 0 12 0;");
        e.due("six for twelve hours", six.fair(0), -108);
        e.due("the most that can be", e.house("step a 9;road a a;sleeper s 0 12 0;sleeper t 0 12 0;").fair(0), 108);

        e.says("20", "-10000: no SLEEPERS, for others.");
        e.due("no SLEEPERS", e.house("step a 1;").fair(0), -10000);
        e.due("no SLEEPERS", e.house("step a 1;").fair(1), -10000);
        for (int what : new int[] {2, -1, -2, MAX, MIN}) {
            e.due("fair(" + what + ")", x.fair(what), -10000);
        }
    }

    private static void rests(Edge e) {
        String one = "road a a;sleeper s 2 1 5;";
        e.says("III", "RESTS for n hours (1 .. 240): sets of those who go to bed at their OTHER BED instead of their BED, from now"
            + " on, so that none by himself, doing the other thing, had more GOOD in them.");
        NextSleeper x = e.house("step a 1;" + one);
        e.due("hours 0 to 2: BED alone", x.rests(3, -1), 1);
        e.due("nobody", x.rests(3, 0), 0);
        e.due("hours 0 to 5: alike", x.rests(6, -1), 2);
        e.due("hour 0: alike", x.rests(1, -1), 2);
        e.due("240 hours: alike", x.rests(240, -1), 2);
        NextSleeper bad = e.house("step a -1;" + one);
        e.due("OTHER BED alone", bad.rests(3, -1), 1);
        e.due("s", bad.rests(3, 0), 1);
        x.bed(0, 5);
        e.due("a BED that is as the other one", x.rests(6, -1), 2);
        x.bed(0, 8);
        // Now the OTHER BED in hour 5 comes sooner.
        e.due("a BED that was changed", x.rests(6, -1), 1);
        e.due("s", x.rests(6, 0), 1);
        x.hours(6);
        e.due("from now on", x.rests(3, -1), 1);
        e.due("nobody", x.rests(3, 0), 0);
        x.hours(600 - 6 - 3);
        // Hours 597 to 599 are 21 to 23 of the day.
        e.due("to hour 599", x.rests(240, -1), 2);
        NextSleeper none = e.house("step a 0;step b 1;step c 3;road a b;road b c;road c c;sleeper s 4 3 2;sleeper t 0 3 2;"
            + "sleeper u 0 2 0;");
        // s and t have 9, 4 by their BEDS; 0, 4 if s, 0, 9 if t, 9, 0 if both take the other one: one always would change.
        e.due("none at all", none.rests(8, -1), 0);
        e.due("not the first", none.rests(8, 0), -1);

        e.says("21", "RESTS: how many (i NONE), else the i-th (bits, the least first);");
        NextSleeper six = e.house("step a 1;road a a;sleeper s 9 1 8;sleeper t 9 1 8;sleeper u 9 1 8;sleeper v 9 1 8;"
            + "sleeper w 9 1 8;sleeper x 9 1 8;");
        e.due("all alike", six.rests(1, -1), 64);
        for (int i = 0; i < 64; i++) {
            e.due("rests(1, " + i + ")", six.rests(1, i), i);
        }
        e.due("no SLEEPERS", e.house("step a 1;").rests(240, -1), 1);
        e.due("no SLEEPERS", e.house("step a 1;").rests(1, 0), 0);
        NextSleeper two = e.house("step a 1;road a a;sleeper s 0 1 1;sleeper t 0 1 1;");
        // In one hour s has 1 in hour 0, t only if s is not there: t may do as they like.
        e.due("how many", two.rests(1, -1), 2);
        e.due("nobody", two.rests(1, 0), 0);
        e.due("t", two.rests(1, 1), 2);

        e.says("21", "NONE: no such ones, not so many.");
        int[][] others = {{0, -1}, {241, -1}, {-1, 0}, {MAX, -1}, {MIN, 0}, {1, -2}, {1, MIN}, {1, 64}, {1, MAX}, {0, 0}};
        for (int[] other : others) {
            e.due("rests(" + other[0] + ", " + other[1] + ")", six.rests(other[0], other[1]), -1);
        }
        e.due("no SLEEPERS, a second one", e.house("step a 1;").rests(1, 1), -1);
    }

    /** By turns and lots hardly a STEP comes back: the same STEP each night by tens, who DREAMS by lot. */
    private static String wandering(int seed) {
        StringBuilder text = new StringBuilder();
        for (char c = 'a'; c <= 'j'; c++) {
            text.append("step ").append(c).append(" 0;");
        }
        for (char c = 'a'; c <= 'j'; c++) {
            char next = c == 'j' ? 'a' : (char) (c + 1);
            text.append("road ").append(c).append(' ').append(c).append(";road ").append(c).append(' ').append(next).append(';');
        }
        text.append("sleeper x 13 1 0;sleeper y 0 12 0;sleeper z 11 12 0;sleeper w 22 12 0;");
        for (char c : new char[] {'x', 'y', 'z', 'w'}) {
            text.append("does ").append(c)
                .append(" = if at<night-night/10*10 then 1 else if night-night/10*10<at then 1 else 0;");
        }
        return text.append("naps 50;seed ").append(seed).append(';').toString();
    }

    /** The first hours as those of ROUND, told by the answers of now() and sleeper() hour by hour. */
    private static int comesRound(NextSleeper x) {
        java.util.Set<String> seen = new java.util.HashSet<>();
        x.hold(2);
        int hours = 0;
        while (seen.add(x.now(2) + " " + x.now(0) + " " + x.now(1) + " " + x.sleeper(0, 0) + " " + x.sleeper(1, 0) + " "
            + x.sleeper(2, 0) + " " + x.sleeper(3, 0))) {
            x.hours(1);
            hours++;
        }
        x.restore(2);
        return hours;
    }

    private static void round(Edge e) {
        e.says("III", "ROUND: the first hours from now on (0 .. 300) behind which the hour of the day, the STEP, who DREAMS, how"
            + " long each is asleep yet are as they were ahead.");
        NextSleeper most = e.house(wandering(6582));
        e.due("hour by hour", comesRound(most), 300);
        e.due("behind 300", most.round(0), 300);
        e.due("as behind 60", most.round(1), 60);
        NextSleeper beyond = e.house(wandering(4705));
        beyond.hours(10);
        e.due("hour by hour", comesRound(beyond), 301);
        e.due("not behind 301", beyond.round(0), -2);
        e.due("not behind 301", beyond.round(1), -2);
        beyond.hours(1);
        e.due("behind 300", beyond.round(0), 300);
        e.due("as behind 60", beyond.round(1), 60);
        NextSleeper day = e.house("step a 0;road a a;sleeper s 5 2 0;");
        e.due("the hour of the day", day.round(0), 24);
        NextSleeper steps = e.house("step a 0;step b 0;road a b;road b a;sleeper s 5 1 0;");
        e.due("the STEP", steps.round(0), 48);
        NextSleeper asleep = e.house("step a 0;road a a;sleeper s 9 1 0;sleeper t 9 1 0;");
        asleep.nap(0, 5);
        e.due("how long s is asleep yet", asleep.round(0), 29);
        e.due("as behind five hours", asleep.round(1), 5);
        asleep.hours(2);
        asleep.nap(1, 1);
        e.due("t for an hour, s for three", asleep.round(0), 27);
        NextSleeper who = e.house("step a 0;road a a;sleeper s 5 3 0;sleeper t 5 3 0;");
        who.hours(4);
        who.nap(1, 4);
        who.hours(2);
        // t DREAMS now; a day later s does, both asleep for as long as now.
        e.due("who DREAMS", who.round(0), 26);

        e.says("22", "ROUND: what 0 behind how many hours, 1 as behind how many;");
        NextSleeper tail = e.house("step a 0;step b 0;step c 0;road a b;road b c;road c b;sleeper s 2 1 0;");
        e.due("round(0)", tail.round(0), 51);
        e.due("round(1)", tail.round(1), 3);
        tail.hours(3);
        e.due("round(0)", tail.round(0), 48);
        e.due("round(1)", tail.round(1), 0);
        e.due("nothing told", new NextSleeper().round(0), 24);
        e.due("nothing told", new NextSleeper().round(1), 0);

        e.says("22", "-2: not;");
        NextSleeper late = e.house("step a 0;road a a;sleeper s 5 1 0;");
        late.hours(576);
        e.due("behind hour 599", late.round(0), 24);
        late.hours(1);
        e.due("not by hour 600", late.round(0), -2);
        e.due("not by hour 600", late.round(1), -2);
        late.hours(23);
        e.due("in hour 600", late.round(1), -2);

        e.says("22", "NONE for others.");
        for (int what : new int[] {2, -1, -2, MAX, MIN}) {
            e.due("round(" + what + ")", late.round(what), -1);
            e.due("round(" + what + ")", day.round(what), -1);
        }
    }

    private static void needed(Edge e) {
        e.says("III", "NEEDED for a STEP: whose LAW, told as 0 instead, would keep it from being dreamt in the next 120 hours, as it"
            + " goes else (if it is dreamt in them).");
        String turn = "step a 0;step b 0;step c 0;road a a;road a b;road b b;road b c;road c c;";
        NextSleeper x = e.house(turn + "sleeper s 0 1 0;sleeper t 1 1 0;sleeper u 2 1 0;does s = 1-at;does t = at;");
        e.due("a is dreamt by whatever", x.needed(0), 0);
        e.due("b needs s", x.needed(1), 1);
        e.due("c needs s and t", x.needed(2), 3);
        NextSleeper either = e.house(turn + "sleeper s 0 1 0;sleeper t 1 1 0;does s = 1;does t = 1;");
        e.due("either would do", either.needed(2), 0);
        NextSleeper zero = e.house(turn + "sleeper s 0 1 0;sleeper t 1 1 0;does t = 1;does t = 0;does s = 1;");
        e.due("a LAW of 0 is not needed", zero.needed(1), 1);
        // In NIGHT n, from its hour 23 on: b is dreamt in the 24th hour behind.
        NextSleeper last = e.house(turn + "sleeper s 23 1 0;does s = night/3;");
        // b is gone to in hour 95 and dreamt in hour 119.
        e.due("in hour 119", last.needed(1), 1);
        NextSleeper beyond = e.house(turn + "sleeper s 0 1 0;does s = night/4;");
        // b is gone to in hour 96 and would be dreamt in hour 120.
        e.due("hour 120 is beyond", beyond.needed(1), -2);
        beyond.hours(1);
        e.due("but not from hour 1 on", beyond.needed(1), 1);
        NextSleeper ahead = e.house(turn + "sleeper s 0 2 0;does s = 1;");
        ahead.hours(2);
        // What was dreamt ahead of now does not count: it stands at c and stays there.
        e.due("a was dreamt ahead", ahead.needed(0), -2);
        e.due("c in the next hours", ahead.needed(2), 0);
        NextSleeper keeps = e.house("step a 0;step b 0;road a a;road a b;sleeper s 0 1 0;does s = 0-1;");
        e.due("as it goes else, not with another LAW", keeps.needed(1), -2);

        e.says("33", "NEEDED (bits of SLEEPERS);");
        NextSleeper six = e.house(turn + "sleeper s 0 1 0;sleeper t 1 1 0;sleeper u 2 1 0;sleeper v 3 1 0;sleeper w 4 1 0;"
            + "sleeper x 5 1 0;does x = 1;");
        e.due("the last one", six.needed(1), 32);

        e.says("33", "-2: it is not dreamt;");
        e.due("no SLEEPERS", e.house("step a 0;").needed(0), -2);
        e.due("no way", e.house("step a 0;step b 0;sleeper s 0 1 0;").needed(1), -2);
        six.hours(599);
        e.due("to hour 599", six.needed(2), -2);

        e.says("33", "NONE: no such STEP.");
        for (int step : new int[] {3, -1, -2, 10, MAX, MIN}) {
            e.due("needed(" + step + ")", six.needed(step), -1);
        }
        e.due("no STEPS", e.house("sleeper s 0 1 0;").needed(0), -1);
    }

    private static void bestBed(Edge e) {
        e.says("III", "BEST BED of a SLEEPER for n hours (1 .. 240): the BED (0 .. 23) with which, from now on, they have most GOOD"
            + " more in them; of alike ones the least.");
        NextSleeper x = e.house("step a 1;step b 5;step c -9;road a b;road b c;road c c;sleeper s 8 1 0;sleeper t 3 1 0;");
        // Ahead of t there is a, behind t b: in hour 4 first; in hour 3 s is the first and has a.
        e.due("behind t", x.bestBed(0, 8, 0), 4);
        e.due("its GOOD", x.bestBed(0, 8, 1), 5);
        e.due("in hours 0 to 3", x.bestBed(0, 4, 0), 0);
        e.due("its GOOD", x.bestBed(0, 4, 1), 1);
        e.due("BED 23 in one day", e.house("step a -1;road a a;sleeper s 0 1 0;").bestBed(0, 23, 0), 23);
        e.due("in 24 hours all are alike", e.house("step a -1;road a a;sleeper s 9 1 0;").bestBed(0, 24, 0), 0);
        e.due("below 0", e.house("step a -1;road a a;sleeper s 9 1 0;").bestBed(0, 24, 1), -1);
        NextSleeper late = e.house("step a 1;road a a;sleeper s 9 1 0;");
        late.hours(590);
        // Hours 590 to 599 are 14 to 23 of the day.
        e.due("to hour 599", late.bestBed(0, 240, 0), 14);
        e.due("its GOOD", late.bestBed(0, 240, 1), 1);
        late.hours(9);
        e.due("to hour 599", late.bestBed(0, 240, 0), 23);
        NextSleeper asleep = e.house("step a 1;road a a;sleeper s 5 3 0;");
        asleep.hours(6);
        e.due("from now on: asleep for two hours yet", asleep.bestBed(0, 3, 1), 3);
        e.due("and then in hour 8", asleep.bestBed(0, 3, 0), 8);

        e.says("27", "BEST BED: what 0 the hour, 1 the GOOD;");
        NextSleeper most = e.house("step a 9;road a a;sleeper s 5 12 0;");
        e.due("240 hours", most.bestBed(0, 240, 0), 0);
        e.due("of twelve each day", most.bestBed(0, 240, 1), 1080);
        e.due("one hour", most.bestBed(0, 1, 1), 9);
        e.due("no STEPS", e.house("sleeper s 5 1 0;").bestBed(0, 9, 0), 0);
        e.due("no STEPS", e.house("sleeper s 5 1 0;").bestBed(0, 9, 1), 0);

        e.says("27", "-10000: no such ones.");
        int[][] others = {{-1, 1, 0}, {1, 1, 0}, {6, 1, 0}, {MAX, 1, 0}, {MIN, 1, 0}, {0, 0, 0}, {0, 241, 0}, {0, -1, 1},
            {0, MAX, 0}, {0, MIN, 0}, {0, 1, 2}, {0, 1, -1}, {0, 1, MAX}, {0, 1, MIN}};
        for (int[] o : others) {
            e.due("bestBed(" + o[0] + ", " + o[1] + ", " + o[2] + ")", most.bestBed(o[0], o[1], o[2]), -10000);
        }
        e.due("no SLEEPERS", e.house("step a 9;").bestBed(0, 1, 0), -10000);
    }

    private static void bestStart(Edge e) {
        e.says("III", "BEST START for n hours (1 .. 240): the STEP to which the dream is set now (or where it stands) so that all"
            + " together have most GOOD more in them; of alike ones the first.");
        NextSleeper x = e.house("step a 1;step b 3;step c 3;step d -4;road a c;road b d;road c c;road d d;sleeper s 0 1 0;"
            + "sleeper t 1 1 0;");
        // In one hour b and c bring 3; in two b -1, c 6, a 4.
        e.due("of alike ones the first", x.bestStart(1, 0), 1);
        e.due("its GOOD", x.bestStart(1, 1), 3);
        e.due("all together", x.bestStart(2, 0), 2);
        e.due("all together", x.bestStart(2, 1), 6);
        x.set(2);
        e.due("where it stands", x.bestStart(2, 0), 2);
        e.due("not where it stands", x.bestStart(1, 0), 1);
        x.hours(2);
        e.due("GOOD more, nobody sleeps", x.bestStart(22, 1), 0);
        e.due("of alike ones the first", x.bestStart(22, 0), 0);
        e.due("from now on", x.bestStart(23, 1), 3);
        x.hours(597);
        e.due("to hour 599", x.bestStart(240, 1), 0);

        e.says("28", "BEST START: what 0 the STEP, 1 the GOOD;");
        NextSleeper ten = e.house("step a -1;step b -1;step c -1;step d -1;step e -1;step f -1;step g -1;step h -1;step i -1;"
            + "step j 0;road j j;sleeper s 0 12 0;");
        e.due("the last STEP", ten.bestStart(240, 0), 9);
        e.due("240 hours", ten.bestStart(240, 1), 0);
        e.due("below 0", e.house("step a -3;step b -2;sleeper s 0 1 0;").bestStart(1, 1), -2);
        e.due("no SLEEPERS", e.house("step a -3;step b -2;").bestStart(240, 0), 0);
        e.due("no SLEEPERS", e.house("step a -3;step b -2;").bestStart(240, 1), 0);

        e.says("28", "-10000: no STEPS, no such ones.");
        e.due("no STEPS", e.house("sleeper s 0 1 0;").bestStart(1, 0), -10000);
        e.due("no STEPS", e.house("sleeper s 0 1 0;").bestStart(1, 1), -10000);
        int[][] others = {{0, 0}, {241, 0}, {-1, 1}, {MAX, 0}, {MIN, 0}, {1, 2}, {1, -1}, {1, MAX}, {1, MIN}};
        for (int[] other : others) {
            e.due("bestStart(" + other[0] + ", " + other[1] + ")", ten.bestStart(other[0], other[1]), -10000);
        }
    }

    private static void free(Edge e) {
        e.says("III", "FREE in the next 24 hours (to hour 599): in how many nobody is asleep (as the hour goes, those who fall asleep"
            + " in it are), the first one.");
        NextSleeper x = e.house("step a 1;sleeper s 0 1 0;sleeper t 3 2 0;");
        // Asleep in hours 0, 3, 4.
        e.due("free(0)", x.free(0), 21);
        e.due("free(1)", x.free(1), 1);
        x.nap(1, 12);
        e.due("hours 0 to 11, by hand", x.free(0), 12);
        e.due("free(1)", x.free(1), 12);
        x.undo();
        x.hours(1);
        // Hours 1 to 24: asleep in 3, 4 and 24.
        e.due("the 24th hour too", x.free(0), 21);
        e.due("free(1)", x.free(1), 1);
        x.hours(2);
        e.due("free(1)", x.free(1), 5);
        x.hours(594);
        // Hours 597 to 599 are 21 to 23 of the day.
        e.due("to hour 599", x.free(0), 3);
        e.due("free(1)", x.free(1), 597);
        x.hours(2);
        e.due("one hour", x.free(0), 1);
        e.due("free(1)", x.free(1), 599);
        x.hours(1);
        e.due("none", x.free(0), 0);
        e.due("none", x.free(1), -2);
        e.due("naps of one hour", e.house("sleeper s 0 1 0;naps 100;").free(0), 0);

        e.says("29", "FREE: what 0 how many, 1 the first hour (from hour 0 on; -2: none);");
        NextSleeper night = e.house("sleeper s 0 12 0;sleeper t 12 12 0;");
        e.due("never", night.free(0), 0);
        e.due("never", night.free(1), -2);
        e.due("no SLEEPERS", new NextSleeper().free(0), 24);
        e.due("no SLEEPERS", new NextSleeper().free(1), 0);
        NextSleeper later = e.house("sleeper s 0 12 0;sleeper t 12 11 0;");
        later.hours(24);
        e.due("one", later.free(0), 1);
        e.due("from hour 0 on", later.free(1), 47);

        e.says("29", "NONE for others.");
        for (int what : new int[] {2, -1, -2, MAX, MIN}) {
            e.due("free(" + what + ")", night.free(what), -1);
            e.due("free(" + what + ") of a new one", new NextSleeper().free(what), -1);
        }
    }

    private static void mean(Edge e) {
        e.says("III", "MEAN of s SEEDS (1 .. 10) from the text's SEED on: ENDS in n hours (0 .. 300) in all of them together.");
        String naps = "step a 1;sleeper s 23 1 0;sleeper t 23 1 0;naps 30;";
        for (int seed : new int[] {0, 9990}) {
            int ends = 0;
            NextSleeper x = e.house(naps + "seed " + seed + ";");
            for (int s = 1; s <= 10; s++) {
                int told = seed + s - 1;
                ends += told > 9999 ? 0 : e.house(naps + "seed " + told + ";").then(300, 5);
                e.due("mean(" + s + ", 300)", x.mean(s, 300), ends);
            }
        }
        NextSleeper last = e.house(naps + "seed 9999;");
        int ends = 0;
        for (int hour = 0; hour < 22; hour++) {
            for (int seed = 9999; seed < 10002; seed++) {
                boolean falls = Model.lot(100, seed, 8 * hour) < 30 || Model.lot(100, seed, 8 * hour + 1) < 30;
                ends += falls ? 1 : 0;
            }
        }
        e.due("SEEDS beyond 9999", last.mean(3, 22), ends);
        last.hours(50);
        e.due("in n hours from now on", last.mean(1, 100), last.then(100, 5) - last.now(5));
        last.hours(540);
        e.due("to hour 599", last.mean(1, 300), last.then(10, 5) - last.now(5));

        e.says("34", "MEAN;");
        NextSleeper all = e.house("step a 1;sleeper s 0 1 0;naps 100;");
        e.due("mean(1, 0)", all.mean(1, 0), 0);
        e.due("mean(10, 0)", all.mean(10, 0), 0);
        e.due("mean(1, 1)", all.mean(1, 1), 1);
        e.due("mean(10, 300)", all.mean(10, 300), 3000);
        e.due("no SLEEPERS", e.house("step a 1;").mean(10, 300), 0);

        e.says("34", "NONE: no such ones.");
        int[][] others = {{0, 1}, {11, 1}, {-1, 1}, {MAX, 1}, {MIN, 1}, {1, -1}, {1, 301}, {1, MAX}, {1, MIN}, {0, -1}};
        for (int[] other : others) {
            e.due("mean(" + other[0] + ", " + other[1] + ")", all.mean(other[0], other[1]), -1);
        }
    }
}
