/** Part IV and promises 39 to 45: what is TOLD, SLOTS, counts. */
final class ToldEdges {
    private static final int MAX = Integer.MAX_VALUE;
    private static final int MIN = Integer.MIN_VALUE;
    /** ROADS: two from STEP 0, three from STEP 1, none from STEP 2, four from STEP 3, one from STEP 4. */
    private static final String HOUSE = "step a 0;step b 0;step c 0;step d 0;step f 0 ends;road a a;road a b;road b a;road b b;"
        + "road b c;road d a;road d b;road d c;road d d;road f a;sleeper s 9 2 0;sleeper t 9 2 0;";

    private ToldEdges() { }

    static void look(Edge e) {
        told(e);
        tell(e);
        forget(e);
        natures(e);
        fits(e);
        doubt(e);
        hold(e);
        restore(e);
        count(e);
    }

    private static void told(Edge e) {
        e.says("IV", "TOLD: that a SLEEPER went a ROAD (by its number among the STEP's) from a STEP, 20 at most, numbered from 0 on;");
        NextSleeper x = e.house(HOUSE);
        e.due("the last ROAD of d", x.tell(1, 3, 3), 0);
        e.due("the last ROAD of b", x.tell(1, 1, 2), 1);
        e.due("a ROAD of what ENDS", x.tell(0, 4, 0), 2);
        for (int i = 3; i < 20; i++) {
            e.due("the same again", x.tell(0, 0, 1), i);
        }
        e.due("a 21st", x.tell(0, 0, 1), -1);

        e.says("IV", "KNOWN by k: the first k.");
        NextSleeper y = e.house(HOUSE);
        y.tell(0, 0, 1);
        y.tell(1, 0, 0);
        y.tell(0, 1, 0);
        // b is 1 or 3; then a + b by 3 is 0 too: 03, 21 and 33.
        e.due("k 0", y.fits(0, 0, -1), 25);
        e.due("k 1", y.fits(0, 1, -1), 10);
        e.due("k 2: of t", y.fits(0, 2, -1), 10);
        e.due("k 3", y.fits(0, 3, -1), 3);
        e.due("t by k 1", y.fits(1, 1, -1), 25);
        e.due("t by k 2", y.fits(1, 2, -1), 15);
        e.due("t by k 3", y.fits(1, 3, -1), 15);
    }

    private static void tell(Edge e) {
        e.says("39", "It is TOLD: its number;");
        NextSleeper x = e.house(HOUSE);
        for (int i = 0; i < 20; i++) {
            e.due("tell " + i, x.tell(i % 2, 3, i % 4), i);
            e.due("count(7)", x.count(7), i + 1);
        }

        e.says("39", "NONE, and nothing happens: 20 are there, no such ones.");
        String full = Edge.all(x);
        e.due("20 are there", x.tell(0, 0, 0), -1);
        e.due("nothing happens", Edge.all(x).equals(full), true);
        NextSleeper y = e.house(HOUSE);
        y.tell(0, 0, 1);
        String before = Edge.all(y);
        int[][] others = {{0, 0, 2}, {0, 0, -1}, {0, 1, 3}, {0, 2, 0}, {0, 3, 4}, {0, 4, 1}, {0, 5, 0}, {0, -1, 0}, {0, -2, 0},
            {2, 0, 0}, {-1, 0, 0}, {MAX, 0, 0}, {MIN, 0, 0}, {0, MAX, 0}, {0, MIN, 0}, {0, 0, MAX}, {0, 0, MIN}};
        for (int[] o : others) {
            e.due("tell(" + o[0] + ", " + o[1] + ", " + o[2] + ")", y.tell(o[0], o[1], o[2]), -1);
            e.due("nothing happens", Edge.all(y).equals(before), true);
        }
        e.due("no STEPS", e.house("sleeper s 0 1 0;").tell(0, -2, 0), -1);
    }

    private static void forget(Edge e) {
        e.says("40", "All that was TOLD is forgotten: how many there were.");
        NextSleeper x = e.house(HOUSE);
        e.due("none", x.forget(), 0);
        for (int i = 0; i < 20; i++) {
            x.tell(0, 0, 1);
        }
        e.due("20", x.forget(), 20);
        e.due("none", x.forget(), 0);
        e.due("count(7)", x.count(7), 0);
        e.due("nothing is KNOWN", x.fits(0, 0, -1), 25);
        e.due("none to know", x.fits(0, 1, -1), -1);
        e.due("numbered from 0 on again", x.tell(1, 0, 0), 0);
        e.due("of t alone", x.fits(0, 1, -1), 25);
        e.due("it is no thing done", x.count(6), 0);
    }

    private static void natures(Edge e) {
        e.says("IV", "NATURES a, b (0 .. 4 each): the ROAD is the rest of a * the STEP's number + b by how many ROADS there are: FITS"
            + " of a SLEEPER: those with which all that is KNOWN of them is so: how many; which (10 * a + b, the least first).");
        NextSleeper x = e.house(HOUSE);
        for (int step : new int[] {0, 1, 3, 4}) {
            int ways = new int[] {2, 3, 0, 4, 1}[step];
            for (int road = 0; road < ways; road++) {
                x.forget();
                x.tell(0, step, road);
                int many = 0;
                for (int a = 0; a < 5; a++) {
                    for (int b = 0; b < 5; b++) {
                        if ((a * step + b) % ways == road) {
                            e.due("fits at " + step + " by ROAD " + road, x.fits(0, 1, many), 10 * a + b);
                            many++;
                        }
                    }
                }
                e.due("how many at " + step + " by ROAD " + road, x.fits(0, 1, -1), many);
            }
        }
        NextSleeper ten = e.house("step a 0;step b 0;step c 0;step d 0;step e 0;step f 0;step g 0;step h 0;step i 0;step j 0;"
            + "road j a;road j b;road j c;road j d;sleeper s 0 1 0;");
        ten.tell(0, 9, 3);
        // 9 * a + b by 4 is a + b by 4: 3 or 7.
        int[] fits = {3, 12, 21, 30, 34, 43};
        e.due("how many", ten.fits(0, 1, -1), fits.length);
        for (int i = 0; i < fits.length; i++) {
            e.due("fits(0, 1, " + i + ")", ten.fits(0, 1, i), fits[i]);
        }

        e.says("IV", "DOUBT: STEPS (with a ROAD or more) at which not all that FIT go one ROAD.");
        NextSleeper y = e.house(HOUSE);
        e.due("two ROADS and more", y.doubt(0, 0), 11);
        y.tell(0, 3, 2);
        // 3 * a + b by 4 is 2: 02, 13, 20, 24, 31 and 42, which part at STEPS 0 and 1.
        e.due("how many FIT", y.fits(0, 1, -1), 6);
        e.due("not at d", y.doubt(0, 1), 3);
        y.tell(0, 0, 0);
        y.tell(0, 1, 2);
        // 02 and 20.
        e.due("how many FIT", y.fits(0, 3, -1), 2);
        e.due("all go one ROAD", y.doubt(0, 3), 0);
    }

    private static void fits(Edge e) {
        e.says("41", "FITS, as KNOWN by k: how many (i NONE), else the i-th;");
        NextSleeper x = e.house(HOUSE);
        e.due("all", x.fits(0, 0, -1), 25);
        e.due("the first", x.fits(0, 0, 0), 0);
        e.due("the 5th", x.fits(0, 0, 4), 4);
        e.due("the 6th", x.fits(0, 0, 5), 10);
        e.due("the last", x.fits(1, 0, 24), 44);
        x.tell(0, 0, 0);
        x.tell(0, 0, 1);
        e.due("none FITS", x.fits(0, 2, -1), 0);
        for (int i = 2; i < 20; i++) {
            x.tell(1, 0, 0);
        }
        e.due("k 20", x.fits(1, 20, -1), 15);
        e.due("the last", x.fits(1, 20, 14), 44);

        e.says("41", "NONE: no such ones, not so many.");
        e.due("not one", x.fits(0, 2, 0), -1);
        e.due("a 16th", x.fits(1, 20, 15), -1);
        int[][] others = {{-1, 0, -1}, {2, 0, -1}, {6, 0, 0}, {MAX, 0, 0}, {MIN, 0, 0}, {0, -1, -1}, {0, 21, -1}, {0, MAX, -1},
            {0, MIN, 0}, {0, 0, 25}, {0, 0, -2}, {0, 0, MAX}, {0, 0, MIN}};
        for (int[] o : others) {
            e.due("fits(" + o[0] + ", " + o[1] + ", " + o[2] + ")", x.fits(o[0], o[1], o[2]), -1);
        }
        x.forget();
        e.due("k 1 of none", x.fits(0, 1, -1), -1);
        e.due("no SLEEPERS", e.house("step a 0;").fits(0, 0, -1), -1);
        e.due("no STEPS", e.house("sleeper s 0 1 0;").fits(0, 0, -1), 25);
    }

    private static void doubt(Edge e) {
        e.says("42", "DOUBT (bits of STEPS; 0 if none FIT);");
        NextSleeper x = e.house(HOUSE);
        e.due("nothing KNOWN", x.doubt(1, 0), 11);
        x.tell(0, 0, 0);
        x.tell(0, 0, 1);
        e.due("none FIT", x.doubt(0, 2), 0);
        e.due("of t all", x.doubt(1, 2), 11);
        e.due("one ROAD each", e.house("step a 0;step b 0;road a b;road b a;sleeper s 0 1 0;").doubt(0, 0), 0);
        e.due("no STEPS", e.house("sleeper s 0 1 0;").doubt(0, 0), 0);
        NextSleeper ten = e.house("step a 0;step b 0;step c 0;step d 0;step e 0;step f 0;step g 0;step h 0;step i 0;step j 0;"
            + "road j a;road j b;sleeper s 0 1 0;");
        e.due("the last STEP", ten.doubt(0, 0), 512);

        NextSleeper zero = e.house("step a 0;step b 0;step c 0;step d 0;road a a;road a b;road a c;road a d;road b a;road b b;"
            + "road b c;road b d;road c a;road c b;road c c;road d a;road d b;road d c;sleeper s 0 1 0;");
        zero.tell(0, 0, 0);
        zero.tell(0, 1, 0);
        zero.tell(0, 2, 0);
        // 00 and 44 FIT: at d they go 0 and 1.
        e.due("the first that FITS", zero.fits(0, 3, 0), 0);
        e.due("the last that FITS", zero.fits(0, 3, 1), 44);
        e.due("they part at d", zero.doubt(0, 3), 8);

        NextSleeper one = e.house("step a 0;step b 0;step c 0;step d 0;road a a;road a b;road a c;road a d;road b a;road b b;"
            + "road b c;road b d;road c a;road c b;road c c;road d a;road d b;road d c;sleeper s 0 1 0;");
        one.tell(0, 0, 0);
        one.tell(0, 1, 1);
        one.tell(0, 3, 0);
        // 10 alone FITS: a 5 and b 0 would too, and go another ROAD at c, but are no NATURE.
        e.due("one FITS", one.fits(0, 3, -1), 1);
        e.due("which", one.fits(0, 3, 0), 10);
        e.due("one that FITS is no doubt", one.doubt(0, 3), 0);

        e.says("42", "NONE: no such ones.");
        int[][] others = {{-1, 0}, {2, 0}, {6, 0}, {MAX, 0}, {MIN, 0}, {0, -1}, {0, 3}, {0, 21}, {0, MAX}, {0, MIN}};
        for (int[] other : others) {
            e.due("doubt(" + other[0] + ", " + other[1] + ")", x.doubt(other[0], other[1]), -1);
        }
    }

    private static NextSleeper standing(Edge e) {
        NextSleeper x = e.house(HourTest.HOUSE + "naps 10;seed 6;");
        x.hours(30);
        x.nap(0, 7);
        x.bed(1, 5);
        x.set((x.now(0) + 1) % 3);
        return x;
    }

    private static void hold(Edge e) {
        e.says("43", "All that is and was (not what is TOLD, nor the tape) is held in a SLOT (0 .. 2): true;");
        NextSleeper x = standing(e);
        x.tell(0, 0, 1);
        Checks.tape(x, "step");
        String before = Edge.all(x);
        int done = x.count(6);
        e.due("hold(0)", x.hold(0), true);
        e.due("hold(2)", x.hold(2), true);
        e.due("it is no thing done", x.count(6), done);
        e.due("SLOTS", x.count(8), 2);
        x.forget();
        x.back(4);
        x.hours(300);
        x.bed(0, 19);
        x.restore(0);
        e.due("not what is TOLD", x.count(7), 0);
        e.due("nor the tape", x.count(5), 0);
        x.tell(0, 0, 1);
        Checks.tape(x, "step");
        for (int i = 0; i < done; i++) {
            x.set((x.now(0) + 1) % 3);
        }
        x.restore(2);
        NextSleeper same = standing(e);
        same.hold(0);
        same.hold(1);
        same.restore(1);
        same.tell(0, 0, 1);
        Checks.tape(same, "step");
        e.due("all that is and was", Edge.all(x).equals(Edge.all(same)), true);
        e.due("but what can be undone", before.equals(Edge.all(x)), false);
        e.due("hold(1)", x.hold(1), true);
        e.due("SLOTS", x.count(8), 3);
        x.hours(5);
        e.due("in place of what it held", x.hold(1), true);
        e.due("SLOTS", x.count(8), 3);
        x.hours(5);
        x.restore(1);
        e.due("the later one", x.now(4), 35);

        e.says("43", "false: no such one.");
        for (int slot : new int[] {-1, 3, MAX, MIN}) {
            e.due("hold(" + slot + ")", x.hold(slot), false);
        }
        e.due("of a new one too", new NextSleeper().hold(2), true);
    }

    private static void restore(Edge e) {
        e.says("44", "It goes on from what a SLOT holds (that stays there; nothing can be undone then): true;");
        NextSleeper x = standing(e);
        x.hold(1);
        for (int i = 0; i < 3; i++) {
            x.hours(50 * i + 50);
            x.wake(0);
            e.due("restore(1)", x.restore(1), true);
            e.due("the hour", x.now(4), 30);
            e.due("nothing can be undone", x.undo(), false);
            e.due("count(6)", x.count(6), 0);
            e.due("it stays there", x.count(8), 1);
            e.due("the nap by hand is settled in the next hour", x.then(1, 1), 0);
        }
        NextSleeper on = standing(e);
        on.hours(200);
        x.hours(200);
        e.dueRow("it goes on: which STEPS", Edge.steps(x), Edge.steps(on));
        e.dueRow("it goes on: who", Edge.dreamers(x), Edge.dreamers(on));
        e.dueRow("it goes on: s", Edge.sleeper(x, 0), Edge.sleeper(on, 0));
        e.due("undo()", x.undo(), true);
        e.due("back in the hour of the SLOT", x.now(4), 30);
        NextSleeper end = standing(e);
        end.hold(0);
        end.hours(570);
        end.hold(2);
        end.restore(0);
        e.due("hour 600 held", end.restore(2), true);
        e.due("all its hours", end.was(599, 0) >= -2 && end.now(4) == 600, true);
        e.due("its last END", end.when(2, true) > 500, true);
        NextSleeper two = e.house(HourTest.HOUSE);
        two.hold(0);
        two.hours(5);
        two.hold(1);
        two.restore(0);
        two.set(2);
        two.nap(1, 12);
        two.hours(5);
        e.dueRow("another way on: who", Edge.dreamers(two), 1, 1, 1, 1, 1);
        e.due("restore(1)", two.restore(1), true);
        e.dueRow("what was is as it was: who", Edge.dreamers(two), -2, -2, 0, 0, 0);
        e.dueRow("what was is as it was: which STEPS", Edge.steps(two), -2, -2, 0, 2, 0);
        e.due("hours in which somebody DREAMT", two.count(9), 3);
        NextSleeper fresh = new NextSleeper();
        fresh.hold(0);
        fresh.hours(5);
        e.due("nothing told", fresh.restore(0), true);
        e.due("hour 0", fresh.now(4), 0);

        e.says("44", "false, and nothing happens: no such one, nothing is held.");
        NextSleeper y = standing(e);
        y.hold(0);
        String before = Edge.all(y);
        for (int slot : new int[] {1, 2, 3, -1, MAX, MIN}) {
            e.due("restore(" + slot + ")", y.restore(slot), false);
            e.due("nothing happens", Edge.all(y).equals(before), true);
        }
        e.due("undo() still can be", y.undo(), true);
        y.read();
        e.due("nothing is held behind a text", y.restore(0), false);
    }

    private static void count(Edge e) {
        e.says("45", "0 STEPS, 1 ROADS, 2 SLEEPERS, 3 BEGINS (-2: no STEPS), 4 NAPS, 5 bytes on the tape, 6 things that can be undone,"
            + " 7 TOLD ones, 8 SLOTS that hold something, 9 hours in which somebody DREAMT.");
        e.dueRow("nothing told", Edge.counts(new NextSleeper()), 0, 0, 0, -2, 0, 0, 0, 0, 0, 0);
        NextSleeper x = e.house("step a 0;step b 0;road a b;road b a;road b b;sleeper s 0 2 0;naps 0;naps 100;begins b;");
        e.dueRow("a text", Edge.counts(x), 2, 3, 1, 1, 100, 0, 0, 0, 0, 0);
        x.feed(0, 0, 0, 0, 0);
        x.back(7);
        x.hours(9);
        x.nap(0, 1);
        x.tell(0, 0, 0);
        x.hold(0);
        x.hold(2);
        x.hold(0);
        e.dueRow("used", Edge.counts(x), 2, 3, 1, 1, 100, 13, 2, 1, 2, 9);
        x.undo();
        x.undo();
        e.dueRow("undone", Edge.counts(x), 2, 3, 1, 1, 100, 13, 0, 1, 2, 0);
        x.hours(600);
        e.due("600 hours", x.count(9), 600);
        NextSleeper quiet = e.house("step a 0;sleeper s 3 2 0;");
        quiet.hours(7);
        e.due("two of seven hours", quiet.count(9), 2);
        e.due("no STEPS", e.house("sleeper s 0 1 0;").count(3), -2);

        e.says("45", "NONE for others.");
        for (int what : new int[] {-1, 10, -2, MAX, MIN}) {
            e.due("count(" + what + ")", x.count(what), -1);
            e.due("count(" + what + ") of a new one", new NextSleeper().count(what), -1);
        }
    }
}
