/** Promises 8, 30, 31, 35 to 38 and 45: who dreamt what when. */
public final class WasTest {
    private static final Checks C = new Checks();

    public static void main(String[] args) {
        handed();
        luckiest();
        knowsAndWhen();
        behind();
        longest();
        dreamtHours();
        C.close("WasTest");
    }

    private static void handed() {
        NextSleeper x = C.house(HourTest.HOUSE);
        x.hours(5);
        C.due("handed(0, 1)", x.handed(0, 1), 0);
        x.nap(1, 2);
        x.hours(2);
        C.due("handed(0, 1)", x.handed(0, 1), 1);
        C.due("handed(1, 0)", x.handed(1, 0), 0);
        x.hours(20);
        C.due("with hours between", x.handed(1, 0), 1);
        C.due("handed(0, 1)", x.handed(0, 1), 1);
        C.due("one and the same", x.handed(0, 0), -1);
        C.due("handed(0, 2)", x.handed(0, 2), -1);
        C.due("handed(2, 0)", x.handed(2, 0), -1);
        C.due("handed(-1, 0)", x.handed(-1, 0), -1);
        C.due("handed(0, -2)", x.handed(0, -2), -1);
        x.undo();
        C.due("undone", x.handed(1, 0), 0);
        NextSleeper first = C.house("step a 0;step b 0;road a b;sleeper s 0 1 0;sleeper t 1 1 0;");
        first.hours(2);
        C.due("from hour 0 on", first.handed(0, 1), 1);
        C.due("from hour 0 on", first.behind(1, 0), 1);
        C.due("from hour 0 on", first.knows(0), 1);
        C.due("from hour 0 on", first.when(0, false), 0);
        C.due("from hour 0 on", first.longest(-1), 2);
        C.due("from hour 0 on", first.count(9), 2);
        first.undo();
        first.hours(1);
        C.due("what was undone is no more", first.handed(0, 1), 0);
        C.due("what was undone is no more", first.behind(1, 0), 0);
        C.due("what was undone is no more", first.knows(1), 0);
        C.due("what was undone is no more", first.when(1, true), -2);
        C.due("what was undone is no more", first.longest(-1), 1);
        C.due("what was undone is no more", first.count(9), 1);
    }

    private static void luckiest() {
        NextSleeper x = C.house(HourTest.HOUSE);
        C.due("of alike ones the first", x.luckiest(0), 0);
        C.due("no more", x.luckiest(1), 0);
        x.nap(1, 2);
        x.hours(2);
        C.due("luckiest(0)", x.luckiest(0), 1);
        C.due("luckiest(1)", x.luckiest(1), 4);
        x.hours(3);
        C.due("luckiest(0)", x.luckiest(0), 0);
        C.due("luckiest(1)", x.luckiest(1), 1);
        C.due("luckiest(2)", x.luckiest(2), -1);
        C.due("luckiest(-1)", x.luckiest(-1), -1);
        NextSleeper below = C.house("step a -4;sleeper s 0 1 0;sleeper t 1 1 0;sleeper u 0 1 0;");
        below.hours(1);
        C.due("below 0", below.luckiest(0), 1);
        C.due("how much more", below.luckiest(1), 4);
        NextSleeper none = C.house("step a 1;");
        C.due("no SLEEPERS", none.luckiest(0), -2);
        C.due("no SLEEPERS", none.luckiest(1), -2);
    }

    private static void knowsAndWhen() {
        NextSleeper x = C.house(HourTest.HOUSE);
        C.due("knows(0) at first", x.knows(0), 0);
        C.due("when(0, true) at first", x.when(0, true), -2);
        x.hours(5);
        C.due("knows(0)", x.knows(0), 1);
        C.due("knows(1)", x.knows(1), 0);
        C.due("knows(2)", x.knows(2), 1);
        C.due("when(0, false)", x.when(0, false), 2);
        C.due("when(0, true)", x.when(0, true), 4);
        C.due("when(2, false)", x.when(2, false), 3);
        C.due("when(2, true)", x.when(2, true), 3);
        C.due("when(1, false)", x.when(1, false), -2);
        x.nap(1, 2);
        x.hours(2);
        C.due("knows(0) of both", x.knows(0), 3);
        C.due("knows(1) of t", x.knows(1), 2);
        C.due("when(0, true)", x.when(0, true), 6);
        C.due("knows(3)", x.knows(3), -1);
        C.due("knows(-1)", x.knows(-1), -1);
        C.due("knows(-2)", x.knows(-2), -1);
        C.due("when(3, true)", x.when(3, true), -1);
        C.due("when(-2, true)", x.when(-2, true), -1);
        x.undo();
        C.due("undone", x.knows(1), 0);
        C.due("undone", x.when(0, true), 4);
    }

    private static void behind() {
        NextSleeper x = C.house(HourTest.HOUSE);
        x.hours(5);
        C.due("c behind a", x.behind(2, 0), 1);
        C.due("a behind c", x.behind(0, 2), 1);
        C.due("b behind a", x.behind(1, 0), 0);
        x.hours(22);
        C.due("b behind a, hours between", x.behind(1, 0), 1);
        C.due("a behind b", x.behind(0, 1), 0);
        C.due("behind(3, 0)", x.behind(3, 0), -1);
        C.due("behind(0, 3)", x.behind(0, 3), -1);
        C.due("behind(-2, 0)", x.behind(-2, 0), -1);
        C.due("behind(0, -2)", x.behind(0, -2), -1);
        NextSleeper same = C.house("step a 1;sleeper s 0 3 0;");
        same.hours(3);
        C.due("a behind a", same.behind(0, 0), 2);
    }

    private static void longest() {
        NextSleeper x = C.house(HourTest.HOUSE);
        C.due("longest(NONE) at first", x.longest(-1), 0);
        x.nap(1, 2);
        x.hours(6);
        C.due("longest(0)", x.longest(0), 3);
        C.due("longest(1)", x.longest(1), 2);
        C.due("longest(NONE)", x.longest(-1), 5);
        x.nap(0, 4);
        x.hours(6);
        C.due("longest(0)", x.longest(0), 4);
        C.due("longest(NONE)", x.longest(-1), 5);
        C.due("longest(2)", x.longest(2), -1);
        C.due("longest(-2)", x.longest(-2), -1);
        NextSleeper naps = C.house("step a 1;sleeper s 0 1 0;naps 100;");
        naps.hours(7);
        C.due("anew each hour", naps.longest(0), 7);
    }

    private static void dreamtHours() {
        NextSleeper x = C.house(HourTest.HOUSE);
        x.hours(4);
        C.due("count(9)", x.count(9), 2);
        x.hours(100);
        C.due("count(9)", x.count(9), 15);
        x.undo();
        C.due("count(9)", x.count(9), 2);
    }
}
