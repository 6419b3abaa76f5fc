/** Promises 39 to 42: what is told, and natures that fit it. */
public final class ToldTest {
    private static final Checks C = new Checks();
    private static final String HOUSE = "step p 0;step q 0;step r 0;step e 0 ends;road p q;road p r;road q p;road q q;"
        + "road q r;road e p;road e q;sleeper s 0 1 0;sleeper t 0 1 0;";

    public static void main(String[] args) {
        tells();
        fits();
        doubts();
        C.close("ToldTest");
    }

    private static void tells() {
        NextSleeper x = C.house(HOUSE);
        C.due("tell(0, 0, 2)", x.tell(0, 0, 2), -1);
        C.due("tell(0, 0, -1)", x.tell(0, 0, -1), -1);
        C.due("tell(0, 2, 0) from where no ROAD leads", x.tell(0, 2, 0), -1);
        C.due("tell(2, 0, 0)", x.tell(2, 0, 0), -1);
        C.due("tell(-1, 0, 0)", x.tell(-1, 0, 0), -1);
        C.due("tell(0, 4, 0)", x.tell(0, 4, 0), -1);
        C.due("tell(0, -2, 0)", x.tell(0, -2, 0), -1);
        C.due("count(7)", x.count(7), 0);
        for (int i = 0; i < 20; i++) {
            C.due("tell " + i, x.tell(i % 2, 1, 2), i);
        }
        C.due("a 21st", x.tell(0, 1, 2), -1);
        C.due("count(7)", x.count(7), 20);
        x.hours(3);
        x.undo();
        C.due("undo() takes none", x.count(7), 20);
        C.due("forget()", x.forget(), 20);
        C.due("forget()", x.forget(), 0);
        C.due("tell anew", x.tell(0, 0, 0), 0);
    }

    private static void fits() {
        NextSleeper x = C.house(HOUSE);
        C.due("nothing KNOWN", x.fits(0, 0, -1), 25);
        C.due("the first", x.fits(0, 0, 0), 0);
        C.due("the 6th", x.fits(0, 0, 5), 10);
        C.due("the last", x.fits(0, 0, 24), 44);
        C.due("not so many", x.fits(0, 0, 25), -1);
        C.due("no such k", x.fits(0, 1, -1), -1);
        x.tell(0, 1, 2);
        // a + b is 2, 5 or 8.
        int[] fits = {2, 11, 14, 20, 23, 32, 41, 44};
        C.due("fits(0, 1, NONE)", x.fits(0, 1, -1), fits.length);
        for (int i = 0; i < fits.length; i++) {
            C.due("fits(0, 1, " + i + ")", x.fits(0, 1, i), fits[i]);
        }
        C.due("fits(0, 1, 8)", x.fits(0, 1, 8), -1);
        C.due("of the other one nothing is KNOWN", x.fits(1, 1, -1), 25);
        C.due("ahead of it", x.fits(0, 0, -1), 25);
        x.tell(0, 0, 0);
        // b is even too.
        int[] both = {2, 14, 20, 32, 44};
        C.due("fits(0, 2, NONE)", x.fits(0, 2, -1), both.length);
        for (int i = 0; i < both.length; i++) {
            C.due("fits(0, 2, " + i + ")", x.fits(0, 2, i), both[i]);
        }
        x.tell(0, 0, 1);
        C.due("none FITS", x.fits(0, 3, -1), 0);
        C.due("none FITS", x.fits(0, 3, 0), -1);
        C.due("fits(0, 2, NONE)", x.fits(0, 2, -1), 5);
        C.due("fits(2, 0, NONE)", x.fits(2, 0, -1), -1);
        C.due("fits(-1, 0, NONE)", x.fits(-1, 0, -1), -1);
        C.due("fits(0, -1, NONE)", x.fits(0, -1, -1), -1);
        C.due("fits(0, 4, NONE)", x.fits(0, 4, -1), -1);
        C.due("fits(0, 0, -2)", x.fits(0, 0, -2), -1);
    }

    private static void doubts() {
        NextSleeper x = C.house(HOUSE);
        C.due("all that has two ROADS or more", x.doubt(0, 0), 11);
        x.tell(0, 1, 2);
        C.due("not q any more", x.doubt(0, 1), 9);
        C.due("ahead of it", x.doubt(0, 0), 11);
        C.due("of the other one", x.doubt(1, 1), 11);
        x.tell(0, 0, 0);
        // At e, 3 * a + b by 2 is a by 2 then.
        C.due("nor p", x.doubt(0, 2), 8);
        x.tell(0, 3, 1);
        C.due("nor e", x.doubt(0, 3), 0);
        x.tell(0, 3, 0);
        C.due("none FIT", x.doubt(0, 4), 0);
        C.due("doubt(0, 5)", x.doubt(0, 5), -1);
        C.due("doubt(0, -1)", x.doubt(0, -1), -1);
        C.due("doubt(2, 0)", x.doubt(2, 0), -1);
        C.due("doubt(-1, 0)", x.doubt(-1, 0), -1);
        NextSleeper y = C.house("step p 0;step q 0;step r 0;step u 0;road p p;road p q;road p r;road p u;road q p;"
            + "road q q;road q r;road q u;road r p;road r q;road r r;road u p;road u q;road u r;sleeper s 0 1 0;"
            + "sleeper t 0 1 0;");
        y.tell(0, 0, 0);
        y.tell(0, 1, 2);
        // 20 and 24 FIT: at r they go 1 and 2, at u 0 and 1.
        C.due("two FIT", y.fits(0, 2, -1), 2);
        C.due("doubt at r and u", y.doubt(0, 2), 12);
        y.tell(1, 0, 0);
        y.tell(1, 1, 0);
        y.tell(1, 2, 0);
        // 0 and 44 FIT: at u they go 0 and 1.
        C.due("fits(1, 5, 0)", y.fits(1, 5, 0), 0);
        C.due("fits(1, 5, 1)", y.fits(1, 5, 1), 44);
        C.due("fits(1, 5, NONE)", y.fits(1, 5, -1), 2);
        C.due("doubt at u", y.doubt(1, 5), 8);
        NextSleeper one = C.house("step a 0;road a a;sleeper s 0 1 0;");
        C.due("one ROAD is no doubt", one.doubt(0, 0), 0);
        C.due("tell(0, 0, 0)", one.tell(0, 0, 0), 0);
        C.due("all go the one ROAD", one.fits(0, 1, -1), 25);
    }
}
