/** Who dreamt what when: promises 30, 31 and 35 to 38. */
final class WasEdges {
    private static final int MAX = Integer.MAX_VALUE;
    private static final int MIN = Integer.MIN_VALUE;
    /** Three that never go to bed in the first 20 hours, and a ring of three STEPS. */
    private static final String RING = "step a 1;step b 2;step c -4;road a b;road b c;road c a;sleeper s 20 1 0;sleeper t 20 1 0;"
        + "sleeper u 20 1 0;";

    private WasEdges() { }

    /** Hours in which the SLEEPERS of that number dreamt, '.' for nobody. */
    private static NextSleeper gone(Edge e, String who) {
        NextSleeper x = e.house(RING);
        for (char c : who.toCharArray()) {
            if (c != '.') {
                x.nap(c - '0', 1);
            }
            x.hours(1);
        }
        return x;
    }

    static void look(Edge e) {
        handed(e);
        luckiest(e);
        knows(e);
        when(e);
        behind(e);
        longest(e);
    }

    private static void handed(Edge e) {
        e.says("III", "HANDED: how often a SLEEPER DREAMT, and in the next hour in which somebody DREAMT another one.");
        NextSleeper x = gone(e, "001..102..2.1");
        e.due("0 to 1", x.handed(0, 1), 1);
        e.due("1 to 0", x.handed(1, 0), 1);
        e.due("0 to 2", x.handed(0, 2), 1);
        e.due("2 to 1", x.handed(2, 1), 1);
        e.due("1 to 2", x.handed(1, 2), 0);
        NextSleeper turns = gone(e, "0101010");
        e.due("0 to 1", turns.handed(0, 1), 3);
        e.due("1 to 0", turns.handed(1, 0), 3);

        e.says("30", "HANDED from one to another one;");
        e.due("nothing yet", e.house(RING).handed(0, 1), 0);
        e.due("one dreamt", gone(e, "0").handed(0, 1), 0);
        e.due("from hour 0 on", gone(e, "01").handed(0, 1), 1);
        NextSleeper undone = gone(e, "01");
        undone.undo();
        e.due("undone", undone.handed(0, 1), 0);
        NextSleeper late = e.house("step a 0;sleeper s 22 1 0;sleeper t 23 1 0;");
        late.hours(600);
        e.due("to hour 599", late.handed(0, 1), 25);
        e.due("and back", late.handed(1, 0), 24);
        NextSleeper none = e.house("sleeper s 0 1 0;sleeper t 5 1 0;");
        none.hours(9);
        e.due("who DREAMT without STEPS", none.handed(0, 1), 1);

        e.says("30", "NONE: no such ones, one and the same.");
        int[][] others = {{0, 0}, {2, 2}, {0, 3}, {3, 0}, {-1, 0}, {0, -1}, {0, -2}, {-2, 0}, {MAX, 0}, {0, MIN}, {6, 7}};
        for (int[] other : others) {
            e.due("handed(" + other[0] + ", " + other[1] + ")", x.handed(other[0], other[1]), -1);
        }
    }

    private static void luckiest(Edge e) {
        e.says("III", "LUCKIEST: who has most GOOD in all (of alike ones the first), and how much more than who has least.");
        NextSleeper x = gone(e, "12");
        e.due("u has 2", x.luckiest(0), 2);
        e.due("s has 0", x.luckiest(1), 2);
        NextSleeper below = gone(e, "120");
        e.due("s has -4", below.luckiest(1), 6);
        NextSleeper alike = gone(e, "11120");
        // t has 1 + 2 - 4, u 1, s 2.
        e.due("s", alike.luckiest(0), 0);
        e.due("2 and -1", alike.luckiest(1), 3);
        NextSleeper same = e.house("step a 5;sleeper s 9 1 0;sleeper t 0 1 0;sleeper u 1 1 0;");
        same.hours(2);
        e.due("of alike ones the first", same.luckiest(0), 1);
        NextSleeper all = e.house("step a -5;sleeper s 0 1 0;sleeper t 1 1 0;");
        all.hours(2);
        e.due("all below 0", all.luckiest(0), 0);
        e.due("alike", all.luckiest(1), 0);

        e.says("31", "LUCKIEST: what 0 who, 1 how much more;");
        e.due("nothing yet", e.house(RING).luckiest(0), 0);
        e.due("nothing yet", e.house(RING).luckiest(1), 0);
        NextSleeper six = e.house("step a 9;sleeper s 20 1 0;sleeper t 20 1 0;sleeper u 20 1 0;sleeper v 20 1 0;sleeper w 20 1 0;"
            + "sleeper x 0 1 0;");
        six.hours(1);
        e.due("the last one", six.luckiest(0), 5);
        e.due("one alone", e.house("step a 9;sleeper s 0 1 0;").luckiest(1), 0);

        e.says("31", "-2: no SLEEPERS;");
        e.due("luckiest(0)", e.house("step a 9;").luckiest(0), -2);
        e.due("luckiest(1)", e.house("step a 9;").luckiest(1), -2);

        e.says("31", "NONE for others.");
        for (int what : new int[] {2, -1, -2, MAX, MIN}) {
            e.due("luckiest(" + what + ")", x.luckiest(what), -1);
        }
    }

    private static void knows(Edge e) {
        e.says("35", "Who dreamt a STEP ahead of now (bits).");
        NextSleeper x = gone(e, "0.12");
        e.due("a: s", x.knows(0), 1);
        e.due("b: t", x.knows(1), 2);
        e.due("c: u", x.knows(2), 4);
        NextSleeper all = gone(e, "012012112");
        e.due("a: s, s, t", all.knows(0), 3);
        e.due("c: u alone", all.knows(2), 4);
        e.due("nobody yet", e.house(RING).knows(0), 0);
        x.undo();
        e.due("undone", x.knows(2), 0);
        x.set(2);
        e.due("set there is not dreamt", x.knows(2), 0);
        e.says("35", "NONE: no such one.");
        for (int step : new int[] {3, -1, -2, 10, MAX, MIN}) {
            e.due("knows(" + step + ")", x.knows(step), -1);
        }
        NextSleeper none = e.house("sleeper s 0 1 0;");
        none.hours(1);
        e.due("no STEPS", none.knows(-2), -1);
        e.due("no STEPS", none.knows(0), -1);
    }

    private static void when(Edge e) {
        e.says("36", "When a STEP was dreamt for the first time (last: the last time);");
        NextSleeper x = gone(e, "0.12.0");
        e.due("a first", x.when(0, false), 0);
        e.due("a last", x.when(0, true), 5);
        e.due("b first", x.when(1, false), 2);
        e.due("b last", x.when(1, true), 2);
        NextSleeper late = e.house("step a 0;sleeper s 23 1 0;");
        late.hours(600);
        e.due("first", late.when(0, false), 23);
        e.due("in hour 599", late.when(0, true), 599);
        x.undo();
        e.due("undone", x.when(0, true), 0);

        e.says("36", "-2: never;");
        e.due("nothing yet", e.house(RING).when(0, false), -2);
        e.due("nothing yet", e.house(RING).when(0, true), -2);
        e.due("not this one", gone(e, "01").when(2, true), -2);

        e.says("36", "NONE: no such one.");
        for (int step : new int[] {3, -1, -2, 10, MAX, MIN}) {
            e.due("when(" + step + ", false)", x.when(step, false), -1);
            e.due("when(" + step + ", true)", x.when(step, true), -1);
        }
        NextSleeper none = e.house("sleeper s 0 1 0;");
        none.hours(1);
        e.due("no STEPS", none.when(-2, true), -1);
    }

    private static void behind(Edge e) {
        e.says("37", "How often a STEP was dreamt right behind another one, in the hour ahead or by the next who DREAMT;");
        NextSleeper x = gone(e, "00..1.0");
        e.due("b behind a, in the hour ahead", x.behind(1, 0), 1);
        e.due("a behind b", x.behind(0, 1), 0);
        e.due("c behind b, by the next who DREAMT", x.behind(2, 1), 1);
        e.due("a behind c", x.behind(0, 2), 1);
        e.due("c behind a", x.behind(2, 0), 0);
        NextSleeper set = e.house(RING);
        set.nap(0, 2);
        set.hours(1);
        set.set(0);
        set.hours(1);
        e.due("a behind itself", set.behind(0, 0), 1);
        e.due("b was not dreamt", set.behind(1, 0), 0);
        e.due("nothing yet", e.house(RING).behind(1, 0), 0);
        NextSleeper late = e.house("step a 0;step b 0;road a b;sleeper s 22 2 0;");
        late.hours(600);
        e.due("to hour 599", late.behind(1, 0), 25);
        e.due("an END between", late.behind(0, 1), 24);
        x.undo();
        e.due("undone", x.behind(0, 2), 0);

        e.says("37", "NONE: no such ones.");
        int[][] others = {{3, 0}, {0, 3}, {-1, 0}, {0, -1}, {-2, 0}, {0, -2}, {10, 10}, {MAX, 0}, {0, MIN}};
        for (int[] other : others) {
            e.due("behind(" + other[0] + ", " + other[1] + ")", x.behind(other[0], other[1]), -1);
        }
        NextSleeper none = e.house("sleeper s 0 3 0;");
        none.hours(3);
        e.due("no STEPS", none.behind(-2, -2), -1);
    }

    private static void longest(Edge e) {
        e.says("38", "The longest row of hours in which a SLEEPER DREAMT, one after the other (sleeper NONE: in which anybody DREAMT,"
            + " whoever);");
        NextSleeper x = gone(e, "00.000112..1111");
        e.due("s", x.longest(0), 3);
        e.due("t, to the last hour", x.longest(1), 4);
        e.due("u", x.longest(2), 1);
        e.due("anybody", x.longest(-1), 6);
        e.due("nothing yet", e.house(RING).longest(-1), 0);
        e.due("nothing yet", e.house(RING).longest(2), 0);
        NextSleeper all = e.house("step a 1;sleeper s 0 1 0;sleeper t 0 1 0;naps 100;");
        all.hours(600);
        e.due("all hours", all.longest(0), 600);
        e.due("all hours", all.longest(-1), 600);
        e.due("t was asleep and did not dream", all.longest(1), 0);
        all.undo();
        e.due("undone", all.longest(-1), 0);
        e.due("from hour 0 on", gone(e, "000.0").longest(0), 3);

        e.says("38", "NONE: no such one.");
        for (int who : new int[] {3, -2, 6, MAX, MIN}) {
            e.due("longest(" + who + ")", x.longest(who), -1);
        }
        e.due("no SLEEPERS", e.house("step a 1;").longest(0), -1);
        e.due("no SLEEPERS, anybody", e.house("step a 1;").longest(-1), 0);
    }
}
