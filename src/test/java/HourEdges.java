import java.util.stream.IntStream;

/** Part II and promises 6 to 14: hours, laws, lots, and what is done by hand and undone. */
final class HourEdges {
    /** s dreams from hour 22 to 26 of a night, t sleeps from 23 to 34 and dreams only if s does not. */
    private static final String NIGHTS = "step a 2;step b -3;step c 4 ends;road a b;road b c;sleeper s 22 5 3;"
        + "sleeper t 23 12 0;";
    private static final String ALWAYS = "step a -9;road a a;sleeper s 5 1 0;naps 100;";

    private HourEdges() { }

    static void look(Edge e) {
        now(e);
        sleeper(e);
        was(e);
        hours(e);
        nap(e);
        wake(e);
        bed(e);
        set(e);
        undo(e);
        anHour(e);
        fallingAsleep(e);
        whoDreams(e);
        dreaming(e);
        sleeping(e);
        laws(e);
        variables(e);
        lots(e);
        byHand(e);
    }

    private static void now(Edge e) {
        e.says("6", "Now: what 0 the STEP where it stands (-2: there are none), 1 who DREAMS (-2: nobody), 2 the hour of"
            + " the day, 3 NIGHT, 4 the hour, 5 ENDS so far, 6 who is asleep (bits).");
        NextSleeper x = e.house(NIGHTS);
        e.dueRow("hour 0", Edge.now(x), 0, -2, 0, 0, 0, 0, 0);
        x.hours(22);
        e.dueRow("hour 22", Edge.now(x), 0, -2, 22, 0, 22, 0, 0);
        x.hours(1);
        e.dueRow("hour 23", Edge.now(x), 1, 0, 23, 0, 23, 0, 1);
        x.hours(1);
        e.dueRow("hour 24", Edge.now(x), 2, 0, 0, 1, 24, 0, 3);
        x.hours(1);
        e.dueRow("hour 25", Edge.now(x), 0, 0, 1, 1, 25, 1, 3);
        x.hours(2);
        e.dueRow("hour 27", Edge.now(x), 2, -2, 3, 1, 27, 1, 2);
        x.hours(8);
        e.dueRow("hour 35", Edge.now(x), 2, -2, 11, 1, 35, 1, 0);
        x.hours(565);
        e.due("hour 600: the hour of the day", x.now(2), 0);
        e.due("hour 600: NIGHT", x.now(3), 25);
        e.due("hour 600: the hour", x.now(4), 600);
        e.due("no STEPS", e.house("sleeper s 0 1 0;").now(0), -2);
        NextSleeper all = e.house(ALWAYS.replace("step a -9;road a a;", "step a -9;") + "sleeper t 0 1 0;sleeper u 0 1 0;"
            + "sleeper v 0 1 0;sleeper w 0 1 0;sleeper x 0 1 0;");
        IntStream.range(0, 6).forEach(i -> all.nap(i, 2));
        e.due("all six asleep", all.now(6), 63);
        all.hours(600);
        e.due("an END each hour", all.now(5), 600);

        e.says("6", "NONE for others.");
        for (int what : new int[] {-1, 7, -2, 8, Integer.MAX_VALUE, Integer.MIN_VALUE}) {
            e.due("now(" + what + ")", x.now(what), -1);
            e.due("now(" + what + ") of a new one", new NextSleeper().now(what), -1);
        }
    }

    private static void sleeper(Edge e) {
        e.says("7", "Of a SLEEPER: what 0 hours they are asleep yet, 1 GOOD in all (it may be below 0), 2 STEPS they dreamt,"
            + " 3 BED, 4 STEPS they know (bits), 5 how often they were asleep anew.");
        NextSleeper x = e.house(NIGHTS);
        e.dueRow("s in hour 0", Edge.sleeper(x, 0), 0, 0, 0, 22, 0, 0);
        x.hours(23);
        e.dueRow("s in hour 23", Edge.sleeper(x, 0), 4, 2, 1, 22, 1, 1);
        x.hours(1);
        e.dueRow("s in hour 24", Edge.sleeper(x, 0), 3, -1, 2, 22, 3, 1);
        x.hours(3);
        e.dueRow("s in hour 27", Edge.sleeper(x, 0), 0, 2, 5, 22, 7, 1);
        e.dueRow("t in hour 27", Edge.sleeper(x, 1), 8, 0, 0, 23, 0, 1);
        x.nap(0, 12);
        e.due("a nap by hand is anew too", x.sleeper(0, 5), 2);
        e.due("hours asleep yet", x.sleeper(0, 0), 12);
        NextSleeper always = e.house(ALWAYS);
        always.hours(600);
        e.dueRow("the most that can be", Edge.sleeper(always, 0), 0, -5400, 600, 5, 1, 600);
        NextSleeper ten = e.house("step a 9;step b 9;step c 9;step d 9;step e 9;step f 9;step g 9;step h 9;step i 9;step j 9;"
            + "road a b;road b c;road c d;road d e;road e f;road f g;road g h;road h i;road i j;sleeper s 0 10 0;");
        ten.hours(10);
        e.dueRow("ten STEPS", Edge.sleeper(ten, 0), 0, 90, 10, 0, 1023, 1);

        e.says("7", "-10000 for others.");
        int[][] others = {{-1, 0}, {2, 0}, {6, 0}, {0, -1}, {0, 6}, {1, 7}, {Integer.MAX_VALUE, 0}, {Integer.MIN_VALUE, 0},
            {0, Integer.MAX_VALUE}, {0, Integer.MIN_VALUE}, {1 << 28, 0}, {-1, 17}, {2, -17}};
        for (int[] other : others) {
            e.due("sleeper(" + other[0] + ", " + other[1] + ")", x.sleeper(other[0], other[1]), -10000);
        }
        e.due("no SLEEPERS", e.house("step a 1;").sleeper(0, 3), -10000);
    }

    private static void was(Edge e) {
        e.says("8", "Of an hour ahead of now: what 0 who DREAMT (-2: nobody), 1 which STEP (-2 likewise);");
        NextSleeper x = e.house("step a 0;step b 0;step c 0;road a b;road b c;sleeper s 0 1 0;sleeper t 1 3 0;"
            + "sleeper u 2 3 0;");
        x.hours(6);
        e.dueRow("who DREAMT", Edge.dreamers(x), 0, 1, 1, 1, -2, -2);
        e.dueRow("which STEP", Edge.steps(x), 0, 1, 2, 0, -2, -2);
        x.hours(594);
        e.due("hour 576", x.was(576, 0), 0);
        e.due("hour 577", x.was(577, 0), 1);
        e.due("hour 599", x.was(599, 0), -2);
        NextSleeper last = e.house("step a 0;step b 0;road a b;road b b;sleeper s 23 1 0;");
        last.hours(600);
        e.due("the very last hour", last.was(599, 0), 0);
        e.due("the very last hour", last.was(599, 1), 1);
        NextSleeper six = e.house("step a 0;step b 0;step c 0;step d 0;step e 0;step f 0;step g 0;step h 0;step i 0;step j 0;"
            + "begins j;sleeper s 9 1 0;sleeper t 9 1 0;sleeper u 9 1 0;sleeper v 9 1 0;sleeper w 9 1 0;sleeper x 0 1 0;");
        six.hours(1);
        e.due("the last SLEEPER", six.was(0, 0), 5);
        e.due("the last STEP", six.was(0, 1), 9);

        e.says("8", "NONE: no such ones.");
        NextSleeper y = e.house(NIGHTS);
        e.due("hour 0 is not ahead of itself", y.was(0, 0), -1);
        y.hours(3);
        int[][] others = {{3, 0}, {3, 1}, {4, 0}, {-1, 0}, {-2, 1}, {0, -1}, {0, 2}, {2, 3}, {600, 0}, {Integer.MAX_VALUE, 0},
            {Integer.MIN_VALUE, 1}, {1, Integer.MAX_VALUE}, {1, Integer.MIN_VALUE}};
        for (int[] other : others) {
            e.due("was(" + other[0] + ", " + other[1] + ")", y.was(other[0], other[1]), -1);
        }
        e.due("the hour just ahead is one", y.was(2, 1), -2);
        y.undo();
        e.due("an hour that was undone", y.was(2, 0), -1);
        y.hours(600);
        e.due("hour 600", y.was(600, 0), -1);
    }

    private static void hours(Edge e) {
        e.says("9", "n hours (0 .. 600; 0 is no thing done; to hour 600 at most) go by: which it is;");
        NextSleeper x = e.house(NIGHTS);
        e.due("hours(0)", x.hours(0), 0);
        e.due("no thing done", x.count(6), 0);
        e.due("hours(1)", x.hours(1), 1);
        e.due("a thing done", x.count(6), 1);
        e.due("hours(598)", x.hours(598), 599);
        e.due("hours(1)", x.hours(1), 600);
        e.due("things done", x.count(6), 3);
        e.due("hours(0)", x.hours(0), 600);
        e.due("no thing done", x.count(6), 3);
        e.due("all at once", e.house(NIGHTS).hours(600), 600);
        e.due("without SLEEPERS", e.house("step a 1;").hours(600), 600);
        NextSleeper one = e.house(NIGHTS + "naps 20;seed 77;");
        NextSleeper many = e.house(NIGHTS + "naps 20;seed 77;");
        one.hours(100);
        for (int i = 0; i < 100; i++) {
            many.hours(1);
        }
        many.hold(0);
        many.restore(0);
        one.hold(0);
        one.restore(0);
        e.due("n hours are one hour n times", Edge.all(one).equals(Edge.all(many)), true);

        e.says("9", "NONE, and nothing happens: no such n, beyond it.");
        NextSleeper y = e.house(NIGHTS);
        y.hours(30);
        String before = Edge.all(y);
        for (int n : new int[] {-1, 601, 571, 600, Integer.MAX_VALUE, Integer.MIN_VALUE}) {
            e.due("hours(" + n + ") in hour 30", y.hours(n), -1);
            e.due("nothing happens", Edge.all(y).equals(before), true);
        }
        e.due("hours(570) in hour 30", y.hours(570), 600);
        e.due("hours(1) in hour 600", y.hours(1), -1);
        e.due("hours(601) in hour 0", e.house(NIGHTS).hours(601), -1);
        e.due("things done", y.count(6), 2);
    }

    private static void nap(Edge e) {
        e.says("10", "NAP for n hours (1 .. 12): true;");
        NextSleeper x = e.house(NIGHTS);
        e.due("nap(0, 1)", x.nap(0, 1), true);
        e.due("nap(1, 12)", x.nap(1, 12), true);
        e.due("things done", x.count(6), 2);
        e.dueRow("s", Edge.sleeper(x, 0), 1, 0, 0, 22, 0, 1);
        e.dueRow("t", Edge.sleeper(x, 1), 12, 0, 0, 23, 0, 1);
        x.hours(1);
        e.due("s is awake again", x.nap(0, 1), true);
        x.hours(11);
        e.due("t is awake again", x.now(6), 0);
        NextSleeper late = three(e);
        late.hours(600);
        e.due("in hour 600 too", late.nap(0, 3), true);

        e.says("10", "false, and nothing happens: they are asleep, no such ones.");
        NextSleeper y = e.house(NIGHTS);
        y.hours(24);
        String before = Edge.all(y);
        int[][] others = {{0, 1}, {1, 1}, {0, 12}, {0, 0}, {0, 13}, {1, -1}, {2, 1}, {-1, 1}, {6, 1}, {Integer.MAX_VALUE, 1},
            {Integer.MIN_VALUE, 1}};
        for (int[] other : others) {
            e.due("nap(" + other[0] + ", " + other[1] + ")", y.nap(other[0], other[1]), false);
            e.due("nothing happens", Edge.all(y).equals(before), true);
        }
        y.hours(20);
        e.due("awake, nap(0, 0)", y.nap(0, 0), false);
        e.due("awake, nap(0, 13)", y.nap(0, 13), false);
        e.due("awake, nap(0, MIN)", y.nap(0, Integer.MIN_VALUE), false);
        e.due("awake, nap(0, MAX)", y.nap(0, Integer.MAX_VALUE), false);
        e.due("awake", y.nap(0, 12), true);
        e.due("asleep by hand", y.nap(0, 12), false);
    }

    private static void wake(Edge e) {
        e.says("11", "WAKE: true;");
        NextSleeper x = e.house(NIGHTS);
        x.hours(24);
        e.due("who does not DREAM", x.wake(1), true);
        e.dueRow("s DREAMS on", Edge.now(x), 2, 0, 0, 1, 24, 0, 1);
        e.due("who DREAMS", x.wake(0), true);
        e.dueRow("nobody DREAMS, it stands", Edge.now(x), 2, -2, 0, 1, 24, 0, 0);
        e.dueRow("s keeps what they have", Edge.sleeper(x, 0), 0, -1, 2, 22, 3, 1);
        e.due("things done", x.count(6), 3);
        x.hours(1);
        e.due("nobody took it up", x.was(24, 0), -2);

        e.says("11", "false, and nothing happens: they are awake, no such one.");
        NextSleeper y = e.house(NIGHTS);
        y.hours(23);
        String before = Edge.all(y);
        for (int who : new int[] {1, 2, -1, 6, Integer.MAX_VALUE, Integer.MIN_VALUE}) {
            e.due("wake(" + who + ")", y.wake(who), false);
            e.due("nothing happens", Edge.all(y).equals(before), true);
        }
        e.due("wake(0)", y.wake(0), true);
        e.due("and again", y.wake(0), false);
    }

    private static void bed(Edge e) {
        e.says("12", "A BED is changed: true;");
        NextSleeper x = e.house(NIGHTS);
        e.due("bed(0, 0)", x.bed(0, 0), true);
        e.due("bed(1, 0)", x.bed(1, 0), true);
        e.due("bed(1, 22)", x.bed(1, 22), true);
        e.due("BED of s", x.sleeper(0, 3), 0);
        e.due("BED of t", x.sleeper(1, 3), 22);
        x.hours(1);
        e.due("in this very hour", x.was(0, 0), 0);
        e.due("while asleep", x.bed(0, 23), true);
        e.due("they sleep on", x.sleeper(0, 0), 4);
        e.due("things done", x.count(6), 5);

        e.says("12", "false, and nothing happens: it is that, no such ones.");
        String before = Edge.all(x);
        int[][] others = {{0, 23}, {1, 22}, {0, 24}, {0, -1}, {2, 0}, {-1, 0}, {6, 5}, {0, Integer.MAX_VALUE},
            {0, Integer.MIN_VALUE}, {Integer.MAX_VALUE, 0}, {Integer.MIN_VALUE, 0}};
        for (int[] other : others) {
            e.due("bed(" + other[0] + ", " + other[1] + ")", x.bed(other[0], other[1]), false);
            e.due("nothing happens", Edge.all(x).equals(before), true);
        }
    }

    private static void set(Edge e) {
        e.says("13", "The dream is set to a STEP: true;");
        NextSleeper x = e.house(NIGHTS);
        x.hours(23);
        e.due("set(2)", x.set(2), true);
        e.dueRow("now", Edge.now(x), 2, 0, 23, 0, 23, 0, 1);
        e.due("set(0)", x.set(0), true);
        e.due("set(1)", x.set(1), true);
        e.due("things done", x.count(6), 4);
        e.due("no STEP is dreamt by it", x.sleeper(0, 2), 1);

        e.says("13", "false, and nothing happens: it stands there, no such one.");
        String before = Edge.all(x);
        for (int step : new int[] {1, 3, -1, -2, 10, Integer.MAX_VALUE, Integer.MIN_VALUE}) {
            e.due("set(" + step + ")", x.set(step), false);
            e.due("nothing happens", Edge.all(x).equals(before), true);
        }
        e.due("no STEPS, set(-2)", e.house("sleeper s 0 1 0;").set(-2), false);
        e.due("no STEPS, set(0)", e.house("sleeper s 0 1 0;").set(0), false);
    }

    private static void undo(Edge e) {
        e.says("14", "The last thing done (hours, nap, wake, bed, set) is undone: true;");
        NextSleeper x = e.house(NIGHTS + "naps 9;");
        x.hours(3);
        String[] stood = new String[7];
        stood[1] = Edge.all(x);
        e.due("nap(0, 9)", x.nap(0, 9), true);
        stood[2] = Edge.all(x);
        x.hours(1);
        stood[3] = Edge.all(x);
        e.due("wake(0)", x.wake(0), true);
        stood[4] = Edge.all(x);
        e.due("bed(1, 2)", x.bed(1, 2), true);
        stood[5] = Edge.all(x);
        e.due("set()", x.set((x.now(0) + 1) % 3), true);
        stood[6] = Edge.all(x);
        x.hours(596);
        for (int i = 6; i > 0; i--) {
            x.hours(0);
            x.nap(9, 9);
            x.then(9, 0);
            e.due("undo()", x.undo(), true);
            e.due("all is as it was ahead of thing " + i, Edge.all(x).equals(stood[i]), true);
        }
        e.due("undo() of the first hours", x.undo(), true);
        e.due("all is as at first", Edge.all(x).equals(Edge.all(e.house(NIGHTS + "naps 9;"))), true);
        NextSleeper napped = e.house(NIGHTS);
        napped.nap(1, 1);
        napped.undo();
        napped.hours(1);
        e.due("a nap that was undone is not settled", napped.was(0, 0), -2);
        napped.undo();
        napped.nap(1, 1);
        napped.hours(1);
        napped.undo();
        napped.hours(1);
        e.due("one that is there again is", napped.was(0, 0), 1);

        e.says("14", "false: there is none (the last 30 can be).");
        e.due("of a new one", new NextSleeper().undo(), false);
        NextSleeper y = e.house(NIGHTS);
        e.due("of a new text", y.undo(), false);
        y.hours(0);
        y.hold(0);
        y.tell(0, 0, 0);
        y.forget();
        y.hours(601);
        e.due("of no thing done", y.undo(), false);
        for (int i = 0; i < 30; i++) {
            y.set(1 + i % 2);
            e.due("things done", y.count(6), i + 1);
        }
        y.set(0);
        e.due("a 31st thing", y.count(6), 30);
        for (int i = 29; i >= 0; i--) {
            e.due("undo()", y.undo(), true);
            e.due("STEP", y.now(0), 1 + i % 2);
            e.due("things left", y.count(6), i);
        }
        e.due("the first thing stays", y.undo(), false);
        e.due("STEP", y.now(0), 1);
        for (int i = 0; i < 100; i++) {
            y.hours(1);
        }
        for (int i = 0; i < 30; i++) {
            y.undo();
        }
        e.due("hour 70", y.now(4), 70);
        e.due("no 31st", y.undo(), false);
    }

    private static void anHour(Edge e) {
        e.says("II", "AN HOUR (0 .. 599 go by; of the day: its rest by 24; NIGHT: the hour by 24):");
        NextSleeper x = e.house("step a 1;sleeper s 0 1 0;sleeper t 23 1 0;");
        for (int hour : new int[] {0, 1, 23, 24, 25, 47, 48, 575, 576, 599, 600}) {
            e.due("hour of the day in " + hour, x.then(hour, 2), hour % 24);
            e.due("NIGHT in " + hour, x.then(hour, 3), hour / 24);
        }
        x.hours(600);
        e.due("hour 0 went by", x.was(0, 0), 0);
        e.due("hour 23", x.was(23, 0), 1);
        e.due("hour 24", x.was(24, 0), 0);
        e.due("hour 576", x.was(576, 0), 0);
        e.due("hour 599 went by", x.was(599, 0), 1);
        e.due("25 nights of each", x.sleeper(0, 5) * 100 + x.sleeper(1, 5), 2525);
        e.due("no hour 600", x.then(1, 4), 600);
    }

    private static void fallingAsleep(Edge e) {
        e.says("II", "(1) SLEEPER by SLEEPER, who is awake: if it is the hour of their BED, they fall asleep for as many hours"
            + " as told;");
        NextSleeper x = e.house("step a 1;road a a;sleeper s 3 4 0;sleeper t 23 3 0;");
        x.hours(2);
        x.nap(0, 12);
        x.hours(2);
        e.due("who is asleep does not fall asleep", x.sleeper(0, 0), 10);
        e.due("nor anew", x.sleeper(0, 5), 1);
        x.hours(10);
        e.due("awake", x.now(6), 0);
        x.hours(12);
        e.due("over midnight", x.sleeper(1, 0), 0);
        e.due("in hour 25 too", x.was(25, 0), 1);
        NextSleeper again = e.house("step a 1;road a a;sleeper s 5 2 0;");
        again.nap(0, 5);
        again.hours(6);
        e.due("who woke in the hour ahead falls asleep anew", again.sleeper(0, 5), 2);
        e.due("for two hours, one went by", again.sleeper(0, 0), 1);
        e.due("and DREAMS", again.now(1), 0);
        NextSleeper twelve = e.house("step a 1;road a a;sleeper s 5 12 0;");
        twelve.hours(6);
        twelve.bed(0, 17);
        twelve.hours(11);
        e.due("awake in hour 17", twelve.now(6), 0);
        twelve.hours(1);
        e.due("and asleep in it", twelve.now(6), 1);

        e.says("II", "else, if LOT 100 of the SEED and 8 * the hour and their number is less than NAPS, for 1.");
        // LOTS of SEED 2 for SLEEPER 0: 0 in hour 5, 1 in hour 6, 99 in hours 8 and 16.
        int[][] often = {{0, 0}, {1, 1}, {2, 2}, {99, 18}, {100, 20}};
        for (int[] naps : often) {
            NextSleeper y = e.house("step a 1;sleeper s 23 3 0;seed 2;naps " + naps[0] + ";");
            y.hours(20);
            e.due("asleep anew by NAPS " + naps[0], y.sleeper(0, 5), naps[1]);
            e.due("hour 5", y.was(5, 0), naps[0] > 0 ? 0 : -2);
            e.due("hour 6", y.was(6, 0), naps[0] > 1 ? 0 : -2);
            e.due("hour 8", y.was(8, 0), naps[0] > 99 ? 0 : -2);
            e.due("hour 16", y.was(16, 0), naps[0] > 99 ? 0 : -2);
            e.due("for 1 hour", y.now(6), 0);
        }
        NextSleeper both = e.house("step a 1;sleeper s 2 3 0;naps 100;");
        both.hours(2);
        e.due("naps", both.sleeper(0, 5), 2);
        both.hours(1);
        e.due("in the hour of their BED for three", both.sleeper(0, 0), 2);
        both.hours(2);
        e.due("no nap of who is asleep", both.sleeper(0, 5), 3);
        both.hours(1);
        e.due("but of who woke", both.sleeper(0, 5), 4);
    }

    private static NextSleeper three(Edge e) {
        return e.house("step a 1;road a a;sleeper s 9 2 0;sleeper t 9 3 0;sleeper u 10 4 0;");
    }

    private static void whoDreams(Edge e) {
        e.says("II", "(2) If nobody DREAMS: the first of those who fell asleep in this hour, or by hand since the last one, and"
            + " are asleep, DREAMS.");
        NextSleeper x = three(e);
        x.hours(16);
        // s and t fall asleep in hour 9, u in hour 10; s wakes behind hour 10.
        e.dueRow("who DREAMT", Edge.dreamers(x), -2, -2, -2, -2, -2, -2, -2, -2, -2, 0, 0, -2, -2, -2, -2, -2);
        x = three(e);
        x.nap(2, 2);
        x.nap(1, 3);
        x.hours(3);
        e.dueRow("by hand: the first by number", Edge.dreamers(x), 1, 1, 1);
        x = three(e);
        x.nap(2, 2);
        x.hours(1);
        x.nap(0, 3);
        x.hours(2);
        e.dueRow("u DREAMT; s fell asleep by hand ahead of another hour", Edge.dreamers(x), 2, 2, -2);
        x = three(e);
        x.nap(2, 1);
        x.hours(1);
        x.nap(0, 3);
        x.hours(1);
        e.dueRow("u is awake: s takes it up", Edge.dreamers(x), 2, 0);
        x = three(e);
        x.nap(0, 2);
        x.wake(0);
        x.hours(1);
        e.dueRow("awake again by hand", Edge.dreamers(x), -2);
        x = three(e);
        x.nap(0, 2);
        x.nap(1, 2);
        x.wake(0);
        x.nap(0, 1);
        x.hours(2);
        e.dueRow("asleep again by hand", Edge.dreamers(x), 0, -2);
        x = three(e);
        x.hours(10);
        x.wake(0);
        x.hours(1);
        e.due("t slept on, u falls asleep and takes it up", x.was(10, 0), 2);
        x = three(e);
        x.hours(9);
        x.nap(1, 5);
        x.hours(1);
        e.due("s in this hour comes ahead of t by hand", x.was(9, 0), 0);
        x = three(e);
        x.hours(9);
        x.nap(0, 1);
        x.hours(1);
        e.due("s by hand comes ahead of t in this hour", x.was(9, 0), 0);
        e.due("and is awake then", x.now(1), -2);
        x = three(e);
        x.nap(1, 4);
        x.hours(1);
        x.wake(1);
        x.nap(1, 4);
        e.due("not yet", x.now(1), -2);
        x.hours(1);
        e.due("who DREAMT wakes, naps and DREAMS again", x.was(1, 0), 1);
    }

    private static void dreaming(Edge e) {
        e.says("II", "(3) Who DREAMS, dreams the STEP where it stands (if there are STEPS): GOOD of it is theirs;");
        NextSleeper x = e.house("step a 3;step b -5;road a b;road b a;sleeper s 0 2 0;sleeper t 0 2 0;");
        x.hours(1);
        e.due("s", x.sleeper(0, 1), 3);
        x.hours(1);
        e.due("s", x.sleeper(0, 1), -2);
        e.due("t does not DREAM", x.sleeper(1, 1), 0);
        NextSleeper none = e.house("sleeper s 0 2 0;does s = at/0;");
        none.hours(1);
        e.dueRow("no STEPS", Edge.now(none), -2, 0, 1, 0, 1, 0, 1);
        e.dueRow("no STEPS", Edge.sleeper(none, 0), 1, 0, 0, 0, 0, 1);

        e.says("II", "if it ENDS, or no ROAD leads from it, it is an END, the dream stands at BEGINS;");
        NextSleeper ends = e.house("step a 1 ends;step b 0;step c 0;road a b;begins c;sleeper s 0 4 0;");
        ends.set(0);
        ends.hours(1);
        e.due("it ENDS, though a ROAD leads on", ends.now(5), 1);
        e.due("BEGINS", ends.now(0), 2);
        ends.hours(1);
        e.due("no ROAD leads from BEGINS either", ends.now(5), 2);
        e.due("BEGINS", ends.now(0), 2);
        NextSleeper into = e.house("step a 1;step b 0;road a a;road b a;sleeper s 0 4 0;");
        into.hours(4);
        e.due("a ROAD to itself is no END", into.now(5), 0);

        e.says("II", "else it goes the ROAD whose number among the STEP's is the rest of what DOES tells by how many there are"
            + " (below 0: 0).");
        int[][] roads = {{1, 0, 0}, {1, 9999, 0}, {2, 7, 1}, {3, 8, 2}, {3, 9, 0}, {4, 9999, 3}, {4, 4, 0}, {4, -1, 0},
            {4, -3, 0}, {4, -4, 0}, {3, -5, 0}, {2, -9999, 0}};
        for (int[] road : roads) {
            String four = "road a b;road a c;road a d;road a e;".substring(0, 9 * road[0]);
            NextSleeper y = e.house("step a 0;step b 0;step c 0;step d 0;step e 0;" + four + "sleeper s 0 1 0;does s = 0"
                + (road[1] < 0 ? "-" : "+") + Math.abs(road[1]) + ";");
            y.hours(1);
            e.due("of " + road[0] + " ROADS by " + road[1], y.now(0) - 1, road[2]);
        }

        e.says("II", "Of each hour it is kept who DREAMT (-2: nobody) which STEP.");
        NextSleeper kept = e.house(NIGHTS);
        kept.hours(600);
        int[] who = Edge.dreamers(kept);
        int[] steps = Edge.steps(kept);
        for (int hour = 0; hour < 600; hour++) {
            boolean night = hour >= 22 && (hour - 22) % 24 < 5;
            e.due("who DREAMT in " + hour, who[hour], night ? 0 : -2);
            e.due("which STEP in " + hour, steps[hour], night ? ((hour - 22) / 24 * 5 + (hour - 22) % 24) % 3 : -2);
        }
    }

    private static void sleeping(Edge e) {
        e.says("II", "(4) Who is asleep sleeps an hour less; with none left they are awake, and dream no more.");
        NextSleeper x = e.house("step a 1;road a a;sleeper s 0 1 0;sleeper t 0 12 0;");
        x.hours(1);
        e.due("s is awake", x.now(6), 2);
        e.due("nobody DREAMS", x.now(1), -2);
        for (int hour = 1; hour < 12; hour++) {
            e.due("t sleeps yet", x.sleeper(1, 0), 12 - hour);
            x.hours(1);
        }
        e.due("t is awake", x.now(6), 0);
        e.due("t never dreamt", x.sleeper(1, 2), 0);
        NextSleeper y = e.house("step a 1;road a a;sleeper s 3 2 0;");
        y.nap(0, 12);
        y.hours(11);
        e.due("s DREAMS", y.now(1), 0);
        y.hours(1);
        e.due("and dreams no more", y.now(1), -2);
        e.due("twelve STEPS", y.sleeper(0, 2), 12);
    }

    /** The road among four that is gone from STEP 0 (GOOD 0) in hour 0 by somebody asleep for an hour. */
    private static void law(Edge e, String law, int road) {
        NextSleeper x = e.house("step a 0;step b 0;step c 0;step d 0;step f 0;road a b;road a c;road a d;road a f;"
            + "sleeper s 0 1 9;does s = " + law + ";");
        x.hours(1);
        e.due("the road by " + law, x.now(0) - 1, road);
    }

    private static void laws(Edge e) {
        e.says("II", "LAWS: the E of the first if that holds (one less than the other), else the last one;");
        law(e, "if 1<2 then 3 else 1", 3);
        law(e, "if 2<2 then 3 else 1", 1);
        law(e, "if 3<2 then 3 else 1", 1);
        law(e, "if 0-1<0 then 3 else 1", 3);
        law(e, "if 0<0-1 then 3 else 1", 1);
        law(e, "if 2<1 then 3 else if 1<2 then 2 else if 1<2 then 1 else 0", 2);
        law(e, "if 1<2 then 1 else if 1<2 then 2 else if 1<2 then 3 else 0", 1);
        law(e, "if 2<1 then 1 else if 2<1 then 2 else if 2<1 then 3 else if 2<1 then 0 else 3", 3);
        law(e, "if 2<1 then 1 else if 2<1 then 2 else if 2<1 then 3 else if 1<2 then 2 else 3", 2);
        law(e, "if (1+1)*2<9/2+1 then 3 else 1", 3);
        law(e, "1+2*3-4/2", 1);
        law(e, "9-4-2", 3);
        law(e, "2*3/4*3", 3);
        law(e, "9-(4-2)", 3);
        String deep = "1+1*(1+1*(1+1*(1+1*(1+1*(1+1*(1+1*";
        law(e, deep + "0))))))", 3);
        law(e, "if " + deep + "1))))))<" + deep + "2)))))) then " + deep + "0)))))) else 1", 3);
        law(e, "if " + deep + "2))))))<" + deep + "2)))))) then 1 else " + deep + "0))))))", 3);
        String three = "if 2<1 then 1 else ".repeat(3);
        law(e, three + "if 2<1 then 1 else " + deep + "0))))))", 3);
        law(e, three + "if " + deep + "1))))))<" + deep + "2)))))) then " + deep + "0)))))) else 1", 3);

        e.says("II", "ints of 32 bits that wrap, / rounded towards 0;");
        law(e, "8192*8192*32-1", 3);
        law(e, "if 8192*8192*32<0 then 3 else 1", 3);
        law(e, "if 8192*8192*32-1+1<0 then 3 else 1", 3);
        law(e, "if 0<8192*8192*32-1 then 3 else 1", 3);
        law(e, "8192*8192*64+3", 3);
        // 9999 * 9999 * 43 is 4299140043: 4172747 of 32 bits.
        law(e, "9999*9999*43", 3);
        law(e, "if 9999*9999*43<4173*1000 then 2 else 1", 2);
        law(e, "if 9999*9999*43<4172*1000 then 2 else 1", 1);
        law(e, "if 9999*9999*22<0 then 2 else 1", 2);
        law(e, "8192*8192*32/(0-1)-1", 3);
        law(e, "9+(0-7)/2", 2);
        law(e, "9+7/(0-2)", 2);
        law(e, "(0-7)/(0-2)", 3);
        law(e, "7/2", 3);
        law(e, "3+1/2", 3);
        law(e, "3+(0-1)/2", 3);

        e.says("II", "a LAW in which something that is looked at is divided by 0 is 0.");
        law(e, "3/0", 0);
        law(e, "0/0+3", 0);
        law(e, "3+at/at", 0);
        law(e, "3+0*(1/(1-1))", 0);
        law(e, "0/3+3", 3);
        law(e, "if 1/0<1 then 3 else 2", 0);
        law(e, "if 1<1/0 then 3 else 2", 0);
        law(e, "if 1<2 then 1/0 else 3", 0);
        law(e, "if 1<2 then 3 else 1/0", 3);
        law(e, "if 2<1 then 1/0 else 3", 3);
        law(e, "if 2<1 then 3 else 1/0", 0);
        law(e, "if 2<1 then 3 else if 0/0<1 then 3 else 3", 0);
        law(e, "if 1<2 then 3 else if 0/0<1 then 2 else 2", 3);
        law(e, "3/(1/2)", 0);
    }

    private static void variables(Edge e) {
        String ten = "step a 0;step b 0;step c 0;step d 0;step e 0;step f 0;step g 0;step h 0;step i 0;step j 0;";
        String turn = "road a a;road a b;";
        e.says("II", "at: the STEP's number;");
        e.due("STEP 9", e.house(ten + "road j a;road j b;begins j;sleeper s 0 1 0;does s = at/9;").then(1, 0), 1);
        e.due("STEP 8", e.house(ten + "road i a;road i b;begins i;sleeper s 0 1 0;does s = at/9;").then(1, 0), 0);
        e.due("STEP 0", e.house("step a 0;step b 0;" + turn + "sleeper s 0 1 0;does s = at+1;").then(1, 0), 1);

        e.says("II", "good: its GOOD;");
        e.due("GOOD -9", e.house("step a -9;step b 0;" + turn + "sleeper s 0 1 0;does s = good+10;").then(1, 0), 1);
        e.due("GOOD 9", e.house("step a 9;step b 0;" + turn + "sleeper s 0 1 0;does s = good-8;").then(1, 0), 1);
        e.due("not the GOOD of the next", e.house("step a 2;step b 1;" + turn + "sleeper s 0 1 0;does s = good;").then(1, 0), 0);

        e.says("II", "night;");
        NextSleeper night = e.house("step a 0;step b 0;" + turn + "sleeper s 23 1 0;does s = night-23;");
        e.due("NIGHT 23 in hour 575", night.then(576, 0), 0);
        e.due("NIGHT 24 in hour 599", night.then(600, 0), 1);
        NextSleeper first = e.house("step a 0;step b 0;" + turn + "sleeper s 23 2 0;does s = night;");
        e.due("NIGHT 0 in hour 23", first.then(24, 0), 0);
        e.due("NIGHT 1 in hour 24", first.then(25, 0), 1);

        e.says("II", "dreamt: how often they dreamt that STEP, this time too;");
        NextSleeper dreamt = e.house("step a 0;step b 0;" + turn + "sleeper s 0 1 0;sleeper t 1 1 0;does t = dreamt-1;");
        e.due("t for the first time", dreamt.then(2, 0), 0);
        e.due("t for the second time", dreamt.then(26, 0), 1);
        NextSleeper that = e.house("step a 0;step b 0;step c 0;road a b;road b a;road b c;sleeper s 0 5 0;does s = dreamt-1;");
        that.hours(5);
        e.dueRow("by how often that STEP", Edge.steps(that), 0, 1, 0, 1, 2);

        e.says("II", "ways: ROADS from it;");
        for (int ways = 1; ways <= 4; ways++) {
            NextSleeper x = e.house("step a 0;step b 0;step c 0;step d 0;road a a;road a b;road a c;road a d;"
                .substring(0, 36 + 9 * ways) + "road b a;road b a;sleeper s 0 1 0;does s = ways-1;");
            e.due("the last of " + ways, x.then(1, 0), ways - 1);
        }

        e.says("II", "left: hours they are asleep yet, this one too;");
        NextSleeper left = e.house("step a 0;step b 0;" + turn + "sleeper s 0 12 0;does s = if left<2 then 1 else 0;");
        e.due("two are left", left.then(11, 0), 0);
        e.due("this one is left", left.then(12, 0), 1);
        NextSleeper all = e.house("step a 0;step b 0;" + turn + "sleeper s 0 12 0;does s = left/12;");
        e.due("twelve are left", all.then(1, 0), 1);
        NextSleeper nap = e.house("step a 0;step b 0;" + turn + "sleeper s 9 12 0;does s = 1/left;naps 100;");
        e.due("one of a nap", nap.then(1, 0), 1);
        nap.nap(0, 2);
        e.due("two of one by hand", nap.then(1, 0), 0);
        e.due("then one", nap.then(2, 0), 1);

        e.says("II", "mood: all GOOD of theirs, that too.");
        NextSleeper mood = e.house("step a 3;step b 0;" + turn + "sleeper s 0 1 0;sleeper t 1 1 0;does t = mood-2;");
        e.due("theirs alone, that too", mood.then(2, 0), 1);
        NextSleeper below = e.house("step a -4;step b 0;" + turn + "sleeper s 0 3 0;does s = if mood<0-11 then 1 else 0;");
        e.due("-8", below.then(2, 0), 0);
        e.due("-12", below.then(3, 0), 1);
    }

    private static void lots(Edge e) {
        e.says("II", "LOT n of a SEED and a which: h is the SEED; for each of 45, which: h becomes (h and it, each bit of which"
            + " is in just one) times 1103515245 and 12345 more, then h and h moved 15 bits down (zeros come in), likewise;"
            + " the rest of h, moved 1 bit down likewise, by n (32 bits that wrap).");
        int[] zero = {90, 68, 51, 45, 0, 38, 37, 43, 26, 83, 3, 96, 48, 77, 1, 46, 41, 35, 6, 28, 24, 73, 76};
        int[] last = {52, 34, 77, 79, 54, 16, 99, 29, 23, 2, 68, 43, 90, 84, 58, 77, 27, 49, 8, 66, 57, 40, 2};
        String six = "step a 0;sleeper s 23 1 0;sleeper t 23 1 0;sleeper u 23 1 0;sleeper v 23 1 0;sleeper w 23 1 0;"
            + "sleeper x 23 1 0;";
        for (int naps = 1; naps < 100; naps += 7) {
            NextSleeper x = e.house(six + "seed 0;naps " + naps + ";");
            NextSleeper y = e.house(six + "seed 9999;naps " + naps + ";");
            int first = 0;
            int sixth = 0;
            for (int hour = 0; hour < 23; hour++) {
                first += zero[hour] < naps ? 1 : 0;
                sixth += last[hour] < naps ? 1 : 0;
                x.hours(1);
                y.hours(1);
                e.due("SEED 0, SLEEPER 0, hour " + hour, x.sleeper(0, 5), first);
                e.due("SEED 9999, SLEEPER 5, hour " + hour, y.sleeper(5, 5), sixth);
            }
        }
        // LOTS of SEED 7 for SLEEPER 5 in hours 570 to 598: but for BED in hour 575, only hour 593 (6) is below 7.
        NextSleeper late = e.house(six + "seed 7;naps 7;");
        late.hours(570);
        int anew = late.sleeper(5, 5);
        late.hours(23);
        e.due("to hour 593", late.sleeper(5, 5), anew + 1);
        late.hours(1);
        e.due("in hour 593", late.sleeper(5, 5), anew + 2);
        late.hours(5);
        e.due("to hour 599", late.sleeper(5, 5), anew + 2);
    }

    private static void byHand(Edge e) {
        e.says("II", "By hand: NAP: who is awake falls asleep for n hours (who DREAMS is settled in the next hour); WAKE; a BED"
            + " is changed; the dream is set to a STEP.");
        NextSleeper x = e.house("step a 1;step b 2;road a a;road b b;sleeper s 5 2 0;sleeper t 6 2 0;");
        x.nap(1, 3);
        e.dueRow("t naps, nobody DREAMS yet", Edge.now(x), 0, -2, 0, 0, 0, 0, 2);
        x.nap(0, 2);
        x.hours(1);
        e.due("settled in the next hour", x.was(0, 0), 0);
        x.wake(0);
        e.due("nobody DREAMS", x.now(1), -2);
        x.set(1);
        x.hours(1);
        e.due("t sleeps on and does not DREAM", x.was(1, 0), -2);
        x.bed(0, 2);
        x.hours(1);
        e.due("s in the hour of the BED that was changed", x.was(2, 0), 0);
        e.due("from the STEP to which it was set", x.was(2, 1), 1);
        x.hours(3);
        e.due("not in the hour of the one ahead", x.was(5, 0), -2);
        x.hours(21);
        e.due("and so each night", x.was(26, 0), 0);
    }
}
