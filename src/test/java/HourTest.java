/** Promises 6 to 14 and part II: an hour, laws, the lot, by hand, undone. */
public final class HourTest {
    private static final Checks C = new Checks();
    /** s dreams a, c (an END), a in hours 2 to 4, then b; t sleeps in hours 3 and 4 and never dreams by itself. */
    static final String HOUSE = "step a 1;step b -2;step c 3 ends;road a b;road a c;road b a;"
        + "sleeper s 2 3 5;sleeper t 3 2 6;does s = dreamt;does t = 1;";

    public static void main(String[] args) {
        hours();
        wrongOnes();
        laws();
        variables();
        lots();
        whoDreams();
        naps();
        wakes();
        bedsAndSteps();
        withoutSteps();
        undone();
        lastHour();
        C.close("HourTest");
    }

    private static void now(NextSleeper x, String when, int... due) {
        for (int i = 0; i < due.length; i++) {
            C.due(when + ": now(" + i + ")", x.now(i), due[i]);
        }
    }

    private static void sleeper(NextSleeper x, int who, int... due) {
        for (int i = 0; i < due.length; i++) {
            C.due("sleeper(" + who + ", " + i + ")", x.sleeper(who, i), due[i]);
        }
    }

    private static void hours() {
        NextSleeper x = C.house(HOUSE);
        now(x, "hour 0", 0, -2, 0, 0, 0, 0, 0);
        C.due("hours(3)", x.hours(3), 3);
        now(x, "hour 3", 2, 0, 3, 0, 3, 0, 1);
        sleeper(x, 0, 2, 1, 1, 2, 1, 1);
        C.due("hours(1)", x.hours(1), 4);
        now(x, "hour 4", 0, 0, 4, 0, 4, 1, 3);
        sleeper(x, 1, 1, 0, 0, 3, 0, 1);
        C.due("hours(1)", x.hours(1), 5);
        now(x, "hour 5", 1, -2, 5, 0, 5, 1, 0);
        sleeper(x, 0, 0, 5, 3, 2, 5, 1);
        sleeper(x, 1, 0, 0, 0, 3, 0, 1);
        int[][] was = {{-2, -2}, {-2, -2}, {0, 0}, {0, 2}, {0, 0}};
        for (int hour = 0; hour < 5; hour++) {
            C.due("was(" + hour + ", 0)", x.was(hour, 0), was[hour][0]);
            C.due("was(" + hour + ", 1)", x.was(hour, 1), was[hour][1]);
        }
        C.due("count(9)", x.count(9), 3);
        C.due("hours(24)", x.hours(24), 29);
        now(x, "hour 29", 0, -2, 5, 1, 29, 2, 0);
        sleeper(x, 0, 0, 7, 6, 2, 7, 2);
    }

    private static void wrongOnes() {
        NextSleeper x = C.house(HOUSE);
        C.due("now(7)", x.now(7), -1);
        C.due("now(-1)", x.now(-1), -1);
        C.due("sleeper(2, 0)", x.sleeper(2, 0), -10000);
        C.due("sleeper(-1, 0)", x.sleeper(-1, 0), -10000);
        C.due("sleeper(0, 6)", x.sleeper(0, 6), -10000);
        C.due("sleeper(0, -1)", x.sleeper(0, -1), -10000);
        C.due("sleeper(MAX, 5)", x.sleeper(Integer.MAX_VALUE, 5), -10000);
        C.due("was(0, 0) of hour 0", x.was(0, 0), -1);
        x.hours(3);
        C.due("was(3, 0)", x.was(3, 0), -1);
        C.due("was(-1, 0)", x.was(-1, 0), -1);
        C.due("was(2, 2)", x.was(2, 2), -1);
        C.due("was(2, -1)", x.was(2, -1), -1);
        C.due("hours(-1)", x.hours(-1), -1);
        C.due("hours(601)", x.hours(601), -1);
        C.due("hours(598)", x.hours(598), -1);
        C.due("hours(MAX)", x.hours(Integer.MAX_VALUE), -1);
        C.due("nothing happened", x.now(4), 3);
        C.due("nothing to undo by them", x.count(6), 1);
    }

    /** The road among four that is gone from STEP 1 (GOOD 5) in hour 0 by somebody asleep for three hours. */
    private static void law(String law, int road) {
        NextSleeper x = C.house("step z 0;step a 5;step b 0;step c 0;step d 0;step e 0;road a b;road a c;road a d;"
            + "road a e;road b a;road c a;road d a;road e a;begins a;sleeper s 0 3 9;does s = " + law + ";");
        x.hours(1);
        C.due("the road by " + law, x.now(0) - 2, road);
    }

    private static void laws() {
        law("0", 0);
        law("3", 3);
        law("7", 3);
        law("9999", 3);
        law("1+2*3", 3);
        law("(1+2)*3", 1);
        law("7-2-2", 3);
        law("24/4/2", 3);
        law("12/4*2+1", 3);
        law("2-3", 0);
        law("2-9", 0);
        law("6+(0-5)/2", 0);
        law("9+(0-7)/2", 2);
        law("9999*9999*9999", Math.max(0, 9999 * 9999 * 9999 % 4));
        law("9999*9999*9999*9999+2", Math.max(0, (9999 * 9999 * 9999 * 9999 + 2) % 4));
        law("9999*9999*99+7", Math.max(0, (9999 * 9999 * 99 + 7) % 4));
        // The least int by -1 wraps.
        law("(0-8192*8192*32)/(0-1)", 0);
        law("if 1<2 then 3 else 1", 3);
        law("if 2<2 then 3 else 1", 1);
        law("if 3<2 then 3 else if 1<2 then 2 else 1", 2);
        law("if 3<2 then 3 else if 2<1 then 2 else 1", 1);
        law("if 0-1<0 then 2 else 1", 2);
        law("1/0", 0);
        law("3+0*(1/0)", 0);
        law("3+0/5", 3);
        law("if 1/0<1 then 3 else 2", 0);
        law("if 1<1/0 then 3 else 2", 0);
        law("if 1<2 then 3 else 1/0", 3);
        law("if 2<1 then 1/0 else 3", 3);
        law("if 2<1 then 3 else if 1/(1-1)<3 then 2 else 2", 0);
        law("if 1<2 then 3 else if 1/(1-1)<3 then 2 else 2", 3);
        law("1+1*(1+1*(1+1*(1+1*(1+1*(1+1*(1+1*0))))))", 3);
        law("if 1+1*(1+1*(1+1*(1+1*(1+1*(1+1*(1+1*1))))))<1+1*(1+1*(1+1*(1+1*(1+1*(1+1*(1+1*2)))))) then 3 else 1", 3);
        law("if 1+1*(1+1*(1+1*(1+1*(1+1*(1+1*(1+1*2))))))<1+1*(1+1*(1+1*(1+1*(1+1*(1+1*(1+1*2)))))) then 3 else 1", 1);
    }

    private static void variables() {
        law("at", 1);
        law("at*3", 3);
        law("good-2", 3);
        law("night", 0);
        law("dreamt*2", 2);
        law("ways-1", 3);
        law("left", 3);
        law("mood-3", 2);
        String hall = "step a 5;step b 0;step c -3;step d 0;step e 0;road a b;road a c;road a d;road a e;road b a;"
            + "road c a;road d a;road e a;sleeper s 0 3 9;does s = ";
        int[][] rows = {
            {0, 1, 0, 1}, {0, 2, 0, 3}, {0, 3, 0, 1}, {0, 1, 0, 1}, {0, 2, 0, 3}};
        String[] laws = {"night", "dreamt", "left-1", "4*left", "if mood<6 then 1 else if mood<8 then 2 else 3"};
        for (int i = 0; i < laws.length; i++) {
            NextSleeper x = C.house(hall + laws[i] + ";");
            x.hours(3);
            C.due(laws[i] + ": was(0, 1)", x.was(0, 1), rows[i][0]);
            C.due(laws[i] + ": was(1, 1)", x.was(1, 1), rows[i][1]);
            C.due(laws[i] + ": was(2, 1)", x.was(2, 1), rows[i][2]);
            C.due(laws[i] + ": now(0)", x.now(0), rows[i][3]);
        }
        NextSleeper x = C.house(hall + "night*3;");
        x.hours(26);
        C.due("the road in NIGHT 1", x.now(0), 4);
        x = C.house(hall + "if good<0 then 9 else at+1;");
        x.hours(2);
        C.due("by at", x.was(1, 1), 2);
    }

    private static void lots() {
        for (int seed : new int[] {0, 7, 9999}) {
            NextSleeper x = C.house("step a 1;sleeper s 23 1 0;sleeper t 23 1 0;sleeper u 23 1 0;naps 30;seed " + seed
                + ";");
            int[] anew = new int[3];
            for (int hour = 0; hour < 90; hour++) {
                int asleep = 0;
                for (int i = 0; i < 3; i++) {
                    boolean falls = hour % 24 == 23 || lot(seed, 8 * hour + i) < 30;
                    asleep |= falls ? 1 << i : 0;
                    anew[i] += falls ? 1 : 0;
                }
                x.hours(1);
                C.due("who dreams by lot in " + hour, x.was(hour, 0),
                    asleep == 0 ? -2 : Integer.numberOfTrailingZeros(asleep));
            }
            for (int i = 0; i < 3; i++) {
                C.due("how often asleep by lot", x.sleeper(i, 5), anew[i]);
            }
        }
        NextSleeper none = C.house("step a 1;sleeper s 23 1 0;");
        none.hours(23);
        C.due("no NAPS", none.sleeper(0, 5), 0);
        NextSleeper all = C.house("step a 1;sleeper s 3 5 0;naps 100;");
        all.hours(10);
        C.due("naps each hour, but BED ahead of them", all.sleeper(0, 5), 6);
    }

    private static int lot(int seed, int which) {
        int h = (seed ^ 45) * 1103515245 + 12345;
        h ^= h >>> 15;
        h = (h ^ which) * 1103515245 + 12345;
        h ^= h >>> 15;
        return (h >>> 1) % 100;
    }

    private static void whoDreams() {
        NextSleeper x = C.house(HOUSE);
        x.nap(1, 5);
        x.nap(0, 1);
        x.hours(1);
        C.due("the first by number", x.was(0, 0), 0);
        x.hours(1);
        C.due("who slept on takes up nothing", x.was(1, 0), -2);
        C.due("nobody DREAMS", x.now(1), -2);
        x.hours(1);
        C.due("who falls asleep next does", x.was(2, 0), 0);
        x = C.house(HOUSE);
        x.nap(0, 2);
        x.nap(1, 2);
        x.wake(0);
        x.hours(1);
        C.due("who is awake again does not", x.was(0, 0), 1);
    }

    private static void naps() {
        NextSleeper x = C.house(HOUSE);
        C.due("nap(1, 2)", x.nap(1, 2), true);
        now(x, "napping", 0, -2, 0, 0, 0, 0, 2);
        sleeper(x, 1, 2, 0, 0, 3, 0, 1);
        C.due("nap(1, 3)", x.nap(1, 3), false);
        C.due("nap(0, 0)", x.nap(0, 0), false);
        C.due("nap(0, 13)", x.nap(0, 13), false);
        C.due("nap(-1, 1)", x.nap(-1, 1), false);
        C.due("nap(2, 1)", x.nap(2, 1), false);
        C.due("things done", x.count(6), 1);
        x.hours(2);
        C.due("t dreamt", x.was(0, 0), 1);
        C.due("by its LAW", x.was(1, 1), 2);
        now(x, "behind the nap", 0, -2, 2, 0, 2, 1, 0);
        C.due("nap(1, 12)", x.nap(1, 12), true);
        x.hours(1);
        C.due("by hand ahead of the hour, but s is the first", x.now(1), 0);
        C.due("left", x.sleeper(1, 0), 11);
    }

    private static void wakes() {
        NextSleeper x = C.house(HOUSE);
        C.due("wake(0) of one awake", x.wake(0), false);
        C.due("wake(2)", x.wake(2), false);
        C.due("wake(-1)", x.wake(-1), false);
        x.hours(4);
        C.due("wake(1)", x.wake(1), true);
        now(x, "t is awake", 0, 0, 4, 0, 4, 1, 1);
        C.due("wake(0)", x.wake(0), true);
        now(x, "s is awake", 0, -2, 4, 0, 4, 1, 0);
        C.due("things done", x.count(6), 3);
        x.nap(1, 1);
        x.hours(1);
        C.due("t goes on", x.was(4, 0), 1);
        C.due("where it stood", x.was(4, 1), 0);
    }

    private static void bedsAndSteps() {
        NextSleeper x = C.house(HOUSE);
        C.due("bed(0, 2)", x.bed(0, 2), false);
        C.due("bed(0, 24)", x.bed(0, 24), false);
        C.due("bed(0, -1)", x.bed(0, -1), false);
        C.due("bed(2, 0)", x.bed(2, 0), false);
        C.due("set(0)", x.set(0), false);
        C.due("set(3)", x.set(3), false);
        C.due("set(-1)", x.set(-1), false);
        C.due("set(-2)", x.set(-2), false);
        C.due("nothing done", x.count(6), 0);
        C.due("bed(1, 0)", x.bed(1, 0), true);
        C.due("BED", x.sleeper(1, 3), 0);
        C.due("bed(1, 3)", x.bed(1, 3), true);
        C.due("bed(0, 23)", x.bed(0, 23), true);
        C.due("BED", x.sleeper(0, 3), 23);
        C.due("set(2)", x.set(2), true);
        C.due("STEP", x.now(0), 2);
        x.hours(4);
        C.due("t dreams now", x.was(3, 0), 1);
        C.due("the STEP that was set", x.was(3, 1), 2);
        C.due("END", x.now(5), 1);
    }

    private static void withoutSteps() {
        NextSleeper x = C.house("sleeper s 1 2 0;");
        x.hours(2);
        now(x, "without STEPS", -2, 0, 2, 0, 2, 0, 1);
        C.due("who DREAMT", x.was(1, 0), 0);
        C.due("no STEP", x.was(1, 1), -2);
        sleeper(x, 0, 1, 0, 0, 1, 0, 1);
        x.hours(1);
        now(x, "without STEPS", -2, -2, 3, 0, 3, 0, 0);
    }

    private static void undone() {
        NextSleeper x = C.house(HOUSE);
        C.due("undo() of nothing", x.undo(), false);
        x.hours(0);
        C.due("hours(0) is no thing done", x.count(6), 0);
        x.hours(5);
        x.nap(1, 4);
        x.bed(0, 9);
        x.set(2);
        x.wake(1);
        x.hours(1);
        C.due("things done", x.count(6), 6);
        C.due("undo hours", x.undo(), true);
        now(x, "hour 5 again", 2, -2, 5, 0, 5, 1, 0);
        C.due("undo wake", x.undo(), true);
        C.due("asleep again", x.now(6), 2);
        C.due("undo set", x.undo(), true);
        C.due("STEP again", x.now(0), 1);
        C.due("undo bed", x.undo(), true);
        C.due("BED again", x.sleeper(0, 3), 2);
        C.due("was is kept", x.was(4, 1), 0);
        C.due("undo nap", x.undo(), true);
        sleeper(x, 1, 0, 0, 0, 3, 0, 1);
        C.due("undo hours", x.undo(), true);
        now(x, "hour 0 again", 0, -2, 0, 0, 0, 0, 0);
        sleeper(x, 0, 0, 0, 0, 2, 0, 0);
        C.due("was(2, 0)", x.was(2, 0), -1);
        C.due("undo() of nothing more", x.undo(), false);
        for (int i = 1; i <= 35; i++) {
            x.hours(1);
        }
        C.due("30 can be undone", x.count(6), 30);
        for (int i = 1; i <= 30; i++) {
            C.due("undo()", x.undo(), true);
            C.due("hour", x.now(4), 35 - i);
        }
        C.due("a 31st", x.undo(), false);
        C.due("still hour 5", x.now(4), 5);
        C.due("a nap that is settled in the next hour comes back", x.nap(1, 1), true);
        x.hours(1);
        x.undo();
        x.hours(1);
        C.due("t dreams", x.was(5, 0), 1);
    }

    private static void lastHour() {
        NextSleeper x = C.house(HOUSE);
        C.due("hours(600)", x.hours(600), 600);
        C.due("hour of the day", x.now(2), 0);
        C.due("NIGHT", x.now(3), 25);
        C.due("hours(1)", x.hours(1), -1);
        C.due("hours(0)", x.hours(0), 600);
        C.due("was(599, 0)", x.was(599, 0), -2);
        C.due("was(600, 0)", x.was(600, 0), -1);
        C.due("nap(0, 1)", x.nap(0, 1), true);
        C.due("asleep", x.now(6), 1);
    }
}
