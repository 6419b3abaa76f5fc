/** Promises 23 to 26 and 32: where roads lead. */
public final class WayTest {
    private static final Checks C = new Checks();
    private static final String ROADS = "step a 0;step b 0;step c 0;step d 0;step e 0 ends;step f 0;step g 0;step h 0;"
        + "road a c;road a b;road b d;road c d;road d e;road e a;road f a;road g g;";

    public static void main(String[] args) {
        reach();
        far();
        trapped();
        best();
        withoutSteps();
        C.close("WayTest");
    }

    private static void reach() {
        NextSleeper x = C.house(ROADS);
        C.due("reach() from a", x.reach(), 31);
        x.set(4);
        C.due("reach() from e, by its ROAD", x.reach(), 31);
        x.set(5);
        C.due("reach() from f", x.reach(), 63);
        x.set(6);
        C.due("reach() from g", x.reach(), 64);
        x.set(7);
        C.due("reach() from h", x.reach(), 128);
    }

    private static void far() {
        NextSleeper x = C.house(ROADS);
        C.due("far(0)", x.far(0), 0);
        C.due("farAt(0, 0)", x.farAt(0, 0), 0);
        C.due("farAt(0, 1)", x.farAt(0, 1), -1);
        C.due("far(3)", x.far(3), 2);
        C.due("farAt(3, 0)", x.farAt(3, 0), 0);
        C.due("by the first ROAD", x.farAt(3, 1), 2);
        C.due("farAt(3, 2)", x.farAt(3, 2), 3);
        C.due("farAt(3, 3)", x.farAt(3, 3), -1);
        C.due("farAt(1, 1) by the second ROAD", x.farAt(1, 1), 1);
        C.due("far(4)", x.far(4), 3);
        C.due("far(5)", x.far(5), -2);
        C.due("farAt(5, 0)", x.farAt(5, 0), -2);
        C.due("farAt(5, 9)", x.farAt(5, 9), -2);
        C.due("farAt(5, -1)", x.farAt(5, -1), -1);
        C.due("far(8)", x.far(8), -1);
        C.due("far(-1)", x.far(-1), -1);
        C.due("farAt(8, 0)", x.farAt(8, 0), -1);
        C.due("farAt(-2, 0)", x.farAt(-2, 0), -1);
        x.set(4);
        C.due("beyond what ENDS", x.far(0), 1);
        x.set(6);
        C.due("round about itself", x.far(6), 0);
        C.due("no way out", x.far(0), -2);
        NextSleeper chain = C.house("step a 0;step b 0;step c 0;step d 0;step e 0;step f 0;step g 0;step h 0;step i 0;"
            + "step j 0;road a a;road a b;road b a;road b c;road c d;road d e;road e f;road f g;road g h;road h i;"
            + "road i j;");
        C.due("the longest way", chain.far(9), 9);
        for (int i = 0; i < 10; i++) {
            C.due("farAt(9, " + i + ")", chain.farAt(9, i), i);
        }
        C.due("farAt(9, 10)", chain.farAt(9, 10), -1);
        C.due("farAt(9, MAX)", chain.farAt(9, Integer.MAX_VALUE), -1);
    }

    private static void trapped() {
        C.due("trapped()", C.house(ROADS).trapped(), 64);
        NextSleeper x = C.house("step a 0;step b 0;step c 0;step d 0 ends;road a b;road b a;road c a;road c d;road d a;");
        C.due("a and b are, c and d not", x.trapped(), 3);
        C.due("without ROADS", C.house("step a 0;").trapped(), 0);
    }

    private static void best() {
        NextSleeper x = C.house(HourTest.HOUSE);
        C.due("best(1, 0)", x.best(1, 0), 1);
        C.due("best(1, 1): of alike ones by the first ROAD", x.best(1, 1), 1);
        C.due("best(2, 0)", x.best(2, 0), 4);
        C.due("best(2, 1)", x.best(2, 1), 2);
        C.due("best(3, 0)", x.best(3, 0), 5);
        C.due("best(4, 0)", x.best(4, 0), 8);
        C.due("best(60, 0)", x.best(60, 0), 120);
        C.due("best(61, 0)", x.best(61, 0), -10000);
        C.due("best(0, 0)", x.best(0, 0), -10000);
        C.due("best(1, 2)", x.best(1, 2), -10000);
        C.due("best(1, -1)", x.best(1, -1), -10000);
        x.set(2);
        C.due("behind an END at BEGINS", x.best(2, 1), 0);
        C.due("best(2, 0)", x.best(2, 0), 4);
        NextSleeper ends = C.house("step a 1 ends;step b 9;step c 2;road a b;begins c;");
        C.due("no ROAD of what ENDS", ends.best(2, 0), 4);
        ends.set(0);
        C.due("but BEGINS", ends.best(2, 1), 2);
        C.due("best(2, 0)", ends.best(2, 0), 3);
        NextSleeper far = C.house("step a 0;step b 5;step c -9;step d 9;step e 9;road a b;road a c;road c d;road d e;"
            + "road b a;");
        C.due("near", far.best(2, 1), 1);
        C.due("far", far.best(4, 1), 1);
        C.due("best(4, 0)", far.best(4, 0), 10);
        C.due("best(5, 0)", far.best(5, 0), 10);
        NextSleeper alike = C.house("step a 0;step b 3;step c 3;road a c;road a b;");
        C.due("of alike ones by the first ROAD", alike.best(2, 1), 2);
    }

    private static void withoutSteps() {
        NextSleeper x = C.house("sleeper s 0 1 0;");
        C.due("reach()", x.reach(), 0);
        C.due("trapped()", x.trapped(), 0);
        C.due("far(0)", x.far(0), -1);
        C.due("far(-2)", x.far(-2), -1);
        C.due("farAt(0, 0)", x.farAt(0, 0), -1);
        C.due("best(1, 0)", x.best(1, 0), -10000);
    }
}
