/** Promises 15 to 22, 27 to 29, 33 and 34: what would be. */
public final class WouldBeTest {
    private static final Checks C = new Checks();
    private static final String HOUSE = HourTest.HOUSE;

    public static void main(String[] args) {
        then();
        ends();
        gains();
        line();
        lineInOtherOrder();
        lineFromNowOn();
        lineOfNone();
        lineToTheLastHour();
        fair();
        rests();
        round();
        roundByEachThing();
        bestBed();
        bestStart();
        free();
        needed();
        mean();
        nothingHappens();
        C.close("WouldBeTest");
    }

    private static void then() {
        NextSleeper x = C.house(HOUSE);
        int[] due = {1, -2, 5, 0, 5, 1, 0};
        for (int i = 0; i < due.length; i++) {
            C.due("then(5, " + i + ")", x.then(5, i), due[i]);
        }
        C.due("then(4, 1)", x.then(4, 1), 0);
        C.due("then(4, 6)", x.then(4, 6), 3);
        C.due("then(0, 4)", x.then(0, 4), 0);
        C.due("then(600, 4)", x.then(600, 4), 600);
        C.due("then(601, 4)", x.then(601, 4), -1);
        C.due("then(-1, 4)", x.then(-1, 4), -1);
        C.due("then(1, 7)", x.then(1, 7), -1);
        C.due("then(1, -1)", x.then(1, -1), -1);
        x.hours(590);
        C.due("as far as hour 600", x.then(100, 4), 600);
        x = C.house(HOUSE);
        x.nap(1, 2);
        C.due("by a nap by hand", x.then(1, 1), 1);
        C.due("and its STEP", x.then(1, 0), 2);
    }

    private static void ends() {
        NextSleeper x = C.house(HOUSE);
        C.due("ends()", x.ends(), 4);
        x.hours(3);
        C.due("ends()", x.ends(), 1);
        x.hours(1);
        C.due("ends()", x.ends(), 25);
        x.hours(590);
        C.due("not by hour 600", x.ends(), -2);
        NextSleeper never = C.house("step a 1;road a a;sleeper s 0 1 0;");
        C.due("never", never.ends(), -2);
        NextSleeper last = C.house("step a 0;step b 0;road a a;road a b;sleeper s 23 1 0;"
            + "does s = if night<23 then 0 else 1;");
        C.due("in the very last hour", last.ends(), 600);
    }

    private static void gains() {
        NextSleeper x = C.house(HOUSE);
        C.due("gains(0, 0)", x.gains(0, 0), 0);
        C.due("gains(0, 3)", x.gains(0, 3), 1);
        C.due("gains(0, 5)", x.gains(0, 5), 5);
        C.due("gains(0, 27)", x.gains(0, 27), 3);
        C.due("gains(0, 29)", x.gains(0, 29), 7);
        C.due("gains(1, 600)", x.gains(1, 600), 0);
        x.hours(5);
        C.due("more from now on", x.gains(0, 24), 2);
        C.due("gains(0, 601)", x.gains(0, 601), -10000);
        C.due("gains(0, -1)", x.gains(0, -1), -10000);
        C.due("gains(2, 1)", x.gains(2, 1), -10000);
        C.due("gains(-1, 1)", x.gains(-1, 1), -10000);
        x.hours(595);
        C.due("gains behind the last hour", x.gains(0, 600), 0);
    }

    private static void line() {
        NextSleeper x = C.house(HOUSE);
        C.due("line(0)", x.line(0), 1);
        C.due("line(2)", x.line(2), 2);
        C.due("of alike ones the first", x.lineAt(2, 0), 0);
        C.due("line(1)", x.line(1), 4);
        C.due("lineAt(1, 0)", x.lineAt(1, 0), 0);
        C.due("lineAt(1, 1)", x.lineAt(1, 1), 1);
        C.due("lineAt(1, 2)", x.lineAt(1, 2), -1);
        C.due("lineAt(1, -1)", x.lineAt(1, -1), -1);
        C.due("lineAt(3, 0)", x.lineAt(3, 0), -1);
        C.due("line(3)", x.line(3), -1);
        C.due("line(-1)", x.line(-1), -1);
        C.due("line(-2)", x.line(-2), -1);
    }

    private static void lineInOtherOrder() {
        NextSleeper x = C.house("step a 1;step b -2;step c 3 ends;road a b;road a c;road b a;"
            + "sleeper t 3 2 6;sleeper s 2 3 5;sleeper u 4 1 4;does s = dreamt;does t = 1;does u = 1;");
        // u, s, t: a; then s dreams c, a, c. t first: a, c; s, u: a, c, a, b comes with u or t.
        C.due("line(1)", x.line(1), 4);
        C.due("lineAt(1, 0)", x.lineAt(1, 0), 1);
        C.due("lineAt(1, 1)", x.lineAt(1, 1), 0);
        C.due("lineAt(1, 2)", x.lineAt(1, 2), 2);
        C.due("lineAt(1, 3)", x.lineAt(1, 3), -1);
    }

    private static void lineFromNowOn() {
        NextSleeper x = C.house(HOUSE);
        x.hours(4);
        // s has dreamt a once: its next a is the second one and leads to b.
        C.due("who is asleep is awake first", x.line(1), 2);
        C.due("lineAt(1, 0)", x.lineAt(1, 0), 0);
        C.due("line(2)", x.line(2), 2);
        C.due("lineAt(2, 0)", x.lineAt(2, 0), 1);
        NextSleeper left = C.house("step a 0;step b 0;step c 0;road a a;road a b;sleeper s 9 4 9;naps 100;"
            + "does s = if left<3 then 1 else 0;");
        C.due("by the hours left", left.line(1), 4);
        NextSleeper night = C.house("step a 0;step b 0;road a a;road a b;sleeper s 9 12 9;sleeper t 9 12 9;"
            + "does s = night;does t = night;");
        night.hours(5);
        night.bed(0, 3);
        C.due("by the NIGHT that comes on", night.line(1), 21);
    }

    private static void lineOfNone() {
        NextSleeper x = C.house("step a 1;step b 1;sleeper s 0 12 0;");
        C.due("a STEP that no order brings", x.line(1), -2);
        C.due("lineAt(1, 0)", x.lineAt(1, 0), -2);
        C.due("lineAt(1, 9)", x.lineAt(1, 9), -2);
        C.due("lineAt(1, -1)", x.lineAt(1, -1), -1);
        NextSleeper none = C.house("step a 1;");
        C.due("no SLEEPERS", none.line(0), -2);
        C.due("no SLEEPERS", none.lineAt(0, 0), -2);
        C.due("no such STEP", none.line(1), -1);
    }

    private static void lineToTheLastHour() {
        NextSleeper x = C.house("step a 0;step b 0;step c 0;road a b;road b c;sleeper s 9 12 9;");
        x.hours(597);
        C.due("in hour 599", x.line(2), 3);
        x.hours(1);
        C.due("not behind it", x.line(2), -2);
        C.due("in hour 599", x.line(1), 2);
        C.due("GOOD to hour 599", x.fair(0), 0);
    }

    private static void fair() {
        NextSleeper x = C.house(HOUSE);
        // s, t bring 5 and -1; t, s bring 4 and 5.
        C.due("fair(0)", x.fair(0), 4);
        C.due("fair(1)", x.fair(1), 1);
        C.due("fair(2)", x.fair(2), -10000);
        C.due("fair(-1)", x.fair(-1), -10000);
        NextSleeper alike = C.house("step a -1;road a a;sleeper s 0 2 0;sleeper t 0 2 0;sleeper u 0 3 0;");
        C.due("the least", alike.fair(0), -3);
        C.due("of alike ones the first", alike.fair(1), 0);
        alike.hours(598);
        C.due("to hour 599", alike.fair(0), -2);
        NextSleeper none = C.house("step a 1;");
        C.due("no SLEEPERS", none.fair(0), -10000);
        NextSleeper empty = C.house("sleeper s 0 2 0;");
        C.due("no STEPS", empty.fair(0), 0);
        C.due("no STEPS", empty.fair(1), 0);
    }

    private static void rests() {
        NextSleeper x = C.house(HOUSE);
        // In five hours: nobody changes 5, 0; s does 0, 4; t does 5, 0; both 0, 0.
        C.due("rests(5, NONE)", x.rests(5, -1), 2);
        C.due("rests(5, 0)", x.rests(5, 0), 0);
        C.due("rests(5, 1)", x.rests(5, 1), 2);
        C.due("rests(5, 2)", x.rests(5, 2), -1);
        C.due("rests(0, NONE)", x.rests(0, -1), -1);
        C.due("rests(241, NONE)", x.rests(241, -1), -1);
        C.due("rests(5, -2)", x.rests(5, -2), -1);
        C.due("rests(1, NONE)", x.rests(1, -1), 4);
        C.due("rests(240, 0) is one", x.rests(240, -1) > 0 && x.rests(240, 0) >= 0, true);
        x.bed(0, 9);
        // s has nothing at 9 nor at 5; t dreams at 3 alone.
        C.due("by a BED that was changed", x.rests(5, -1), 2);
        C.due("rests(5, 0)", x.rests(5, 0), 0);
        C.due("rests(5, 1)", x.rests(5, 1), 1);
        x.hours(600);
        C.due("no hours are left", x.rests(240, -1), 4);
        C.due("the last set", x.rests(240, 3), 3);
        NextSleeper none = C.house("");
        C.due("no SLEEPERS", none.rests(240, -1), 1);
        C.due("no SLEEPERS", none.rests(240, 0), 0);
        C.due("no SLEEPERS", none.rests(240, 1), -1);
    }

    private static void round() {
        NextSleeper x = C.house(HOUSE);
        C.due("round(0)", x.round(0), 48);
        C.due("round(1)", x.round(1), 0);
        C.due("round(2)", x.round(2), -1);
        C.due("round(-1)", x.round(-1), -1);
        NextSleeper into = C.house("step a 0;step b 0;step c 0;road a b;road b c;road c b;sleeper s 2 1 0;");
        // a in hour 2, b in 26, c in 50, b in 74: it stands at b from hour 3 on, and again from hour 51 on.
        C.due("round(0)", into.round(0), 51);
        C.due("round(1)", into.round(1), 3);
        into.hours(3);
        C.due("round(0)", into.round(0), 48);
        C.due("round(1)", into.round(1), 0);
        into.hours(577 - 3);
        C.due("no day is left", into.round(0), -2);
        NextSleeper late = C.house("step a 0;road a a;sleeper s 2 1 0;");
        late.hours(576);
        C.due("the last day", late.round(0), 24);
        late.hours(1);
        C.due("no day is left", late.round(0), -2);
        NextSleeper long12 = C.house("step a 0;step b 0;step c 0;step d 0;step e 0;step f 0;step g 0;step h 0;step i 0;"
            + "step j 0;road a b;road b c;road c d;road d e;road e f;road f g;road g h;road h i;road i j;"
            + "sleeper s 0 1 0;");
        C.due("behind 240 hours", long12.round(0), 240);
        NextSleeper asleep = C.house("step a 0;road a a;sleeper s 9 1 0;");
        asleep.nap(0, 12);
        asleep.hours(2);
        // In the first day the nap stands in the way: how long each is asleep counts too.
        C.due("behind the nap", asleep.round(0), 34);
        C.due("as behind 10 hours", asleep.round(1), 10);
        NextSleeper never = C.house("step a 0;step b 0;road a a;road a b;sleeper s 0 1 0;does s = if night<13 then 0 else 1;");
        never.set(1);
        C.due("as it was in an hour between", never.round(0), 25);
        C.due("of the day ahead", never.round(1), 1);
    }

    /** Days that differ in one thing alone that ROUND looks at. */
    private static void roundByEachThing() {
        NextSleeper who = C.house("step a 0;road a a;sleeper s 5 3 0;sleeper t 5 3 0;");
        who.hours(4);
        who.nap(1, 4);
        who.hours(2);
        C.due("t DREAMS now, s a day later", who.round(0), 26);
        C.due("all awake", who.round(1), 2);
        NextSleeper stepToo = C.house("step a 0;step b 0;road a a;road a b;road b b;sleeper s 5 3 0;sleeper t 5 3 0;"
            + "does s = 1;");
        stepToo.hours(4);
        stepToo.nap(1, 4);
        stepToo.hours(2);
        C.due("t at a now, s at b a day later", stepToo.round(0), 48);
        C.due("as a day later", stepToo.round(1), 24);
        NextSleeper left = C.house("step a 0;road a a;sleeper s 5 2 0;sleeper t 5 3 0;");
        left.hours(5);
        left.nap(0, 3);
        left.nap(1, 2);
        left.hours(1);
        C.due("2 and 1 hours now, 1 and 2 a day later", left.round(0), 26);
        C.due("all awake", left.round(1), 2);
    }

    private static void bestBed() {
        NextSleeper x = C.house(HOUSE);
        C.due("bestBed(1, 5, 0)", x.bestBed(1, 5, 0), 0);
        C.due("bestBed(1, 5, 1)", x.bestBed(1, 5, 1), 4);
        x.hours(1);
        C.due("bestBed(1, 2, 0)", x.bestBed(1, 2, 0), 1);
        C.due("bestBed(1, 2, 1)", x.bestBed(1, 2, 1), 4);
        C.due("bestBed(1, 1, 0)", x.bestBed(1, 1, 0), 1);
        C.due("bestBed(1, 1, 1)", x.bestBed(1, 1, 1), 1);
        C.due("bestBed(2, 5, 0)", x.bestBed(2, 5, 0), -10000);
        C.due("bestBed(-1, 5, 0)", x.bestBed(-1, 5, 0), -10000);
        C.due("bestBed(0, 0, 0)", x.bestBed(0, 0, 0), -10000);
        C.due("bestBed(0, 240, 0) is one", x.bestBed(0, 240, 0) >= 0, true);
        C.due("bestBed(0, 241, 0)", x.bestBed(0, 241, 0), -10000);
        C.due("bestBed(0, 5, 2)", x.bestBed(0, 5, 2), -10000);
        C.due("bestBed(0, 5, -1)", x.bestBed(0, 5, -1), -10000);
        NextSleeper bad = C.house("step a -1;road a a;sleeper s 0 2 0;");
        C.due("none is best", bad.bestBed(0, 12, 0), 12);
        C.due("with GOOD 0", bad.bestBed(0, 12, 1), 0);
        C.due("all beds come", bad.bestBed(0, 240, 1), -19);
        C.due("the one that comes last", bad.bestBed(0, 240, 0), 23);
    }

    private static void bestStart() {
        NextSleeper x = C.house(HOUSE);
        C.due("bestStart(5, 0)", x.bestStart(5, 0), 2);
        C.due("bestStart(5, 1)", x.bestStart(5, 1), 7);
        C.due("bestStart(2, 0)", x.bestStart(2, 0), 0);
        C.due("bestStart(2, 1)", x.bestStart(2, 1), 0);
        C.due("bestStart(0, 0)", x.bestStart(0, 0), -10000);
        C.due("bestStart(1, 1)", x.bestStart(1, 1), 0);
        C.due("bestStart(240, 0) is one", x.bestStart(240, 0) >= 0, true);
        C.due("bestStart(241, 0)", x.bestStart(241, 0), -10000);
        C.due("bestStart(5, 2)", x.bestStart(5, 2), -10000);
        C.due("bestStart(5, -1)", x.bestStart(5, -1), -10000);
        x.hours(5);
        x.nap(1, 2);
        // All together: t dreams c, a and s nothing.
        C.due("bestStart(2, 0)", x.bestStart(2, 0), 0);
        C.due("bestStart(2, 1)", x.bestStart(2, 1), 4);
        NextSleeper none = C.house("sleeper s 0 1 0;");
        C.due("no STEPS", none.bestStart(5, 0), -10000);
        NextSleeper below = C.house("step a -3;step b -2;sleeper s 0 1 0;");
        C.due("the least bad", below.bestStart(1, 0), 1);
        C.due("its GOOD", below.bestStart(1, 1), -2);
    }

    private static void free() {
        NextSleeper x = C.house(HOUSE);
        C.due("free(0)", x.free(0), 21);
        C.due("free(1)", x.free(1), 0);
        x.hours(2);
        C.due("free(0)", x.free(0), 21);
        C.due("free(1)", x.free(1), 5);
        x.nap(0, 12);
        C.due("free(0)", x.free(0), 12);
        C.due("free(1)", x.free(1), 14);
        C.due("free(2)", x.free(2), -1);
        C.due("free(-1)", x.free(-1), -1);
        x.undo();
        x.hours(596);
        C.due("two hours are left", x.free(0), 2);
        C.due("free(1)", x.free(1), 598);
        NextSleeper always = C.house("sleeper s 0 12 0;sleeper t 12 12 0;");
        C.due("never", always.free(0), 0);
        C.due("never", always.free(1), -2);
    }

    private static void needed() {
        NextSleeper x = C.house(HOUSE);
        C.due("needed(0)", x.needed(0), 0);
        C.due("needed(1)", x.needed(1), 0);
        C.due("needed(2)", x.needed(2), 1);
        C.due("needed(3)", x.needed(3), -1);
        C.due("needed(-1)", x.needed(-1), -1);
        NextSleeper two = C.house("step a 0;step b 0;step c 0;step d 0;road a a;road a b;road b b;road b c;"
            + "sleeper s 0 1 0;sleeper t 1 1 0;does s = 1;does t = 1;");
        // a and b in hours 0 and 1 by s and t: only with both does c come in hour 24, else it comes later.
        C.due("either would do", two.needed(2), 0);
        two.hours(480);
        two.set(0);
        two.bed(0, 20);
        two.bed(1, 21);
        C.due("still so", two.needed(2), 0);
        two.hours(96);
        two.set(0);
        C.due("to hour 599: a, b", two.needed(1), 1);
        C.due("c is not dreamt any more", two.needed(2), -2);
        C.due("d never is", two.needed(3), -2);
        NextSleeper far = C.house("step a 0;step b 0;road a b;sleeper s 23 1 0;");
        far.bed(0, 0);
        far.hours(1);
        C.due("in the hours from 1 to 120", far.needed(1), 0);
        NextSleeper late = C.house("step a 0;step b 0;road a a;road a b;sleeper s 0 1 0;does s = night/4;");
        C.due("hour 120 is beyond", late.needed(1), -2);
        late.hours(1);
        C.due("but not from hour 1 on", late.needed(1), 1);
    }

    private static void mean() {
        NextSleeper x = C.house(HOUSE);
        C.due("mean(1, 3)", x.mean(1, 3), 0);
        C.due("mean(1, 4)", x.mean(1, 4), 1);
        C.due("mean(1, 29)", x.mean(1, 29), 2);
        C.due("mean(3, 29)", x.mean(3, 29), 6);
        C.due("mean(10, 0)", x.mean(10, 0), 0);
        C.due("mean(0, 1)", x.mean(0, 1), -1);
        C.due("mean(11, 1)", x.mean(11, 1), -1);
        C.due("mean(1, 301)", x.mean(1, 301), -1);
        C.due("mean(10, 300)", x.mean(10, 300), 10 * x.then(300, 5));
        C.due("mean(1, -1)", x.mean(1, -1), -1);
        x.hours(4);
        C.due("more from now on", x.mean(1, 25), 1);
        NextSleeper naps = C.house("step a 1;sleeper s 0 1 0;naps 40;seed 9998;");
        int ends = 0;
        for (int seed = 9998; seed < 10001; seed++) {
            for (int hour = 0; hour < 50; hour++) {
                ends += hour % 24 == 0 || Model.lot(100, seed, 8 * hour) < 40 ? 1 : 0;
            }
        }
        C.due("by three SEEDS", naps.mean(3, 50), ends);
        naps.hours(590);
        C.due("to hour 599", naps.mean(1, 300), naps.then(300, 5) - naps.now(5));
    }

    private static void nothingHappens() {
        NextSleeper x = C.house(HOUSE);
        x.hours(3);
        x.then(9, 0);
        x.ends();
        x.gains(0, 9);
        x.line(1);
        x.fair(0);
        x.rests(9, -1);
        x.round(0);
        x.bestBed(0, 9, 0);
        x.bestStart(9, 0);
        x.free(0);
        x.needed(1);
        x.mean(2, 9);
        int[] now = {2, 0, 3, 0, 3, 0, 1};
        for (int i = 0; i < now.length; i++) {
            C.due("nothing happened: now(" + i + ")", x.now(i), now[i]);
        }
        C.due("nothing happened: BED", x.sleeper(0, 3), 2);
        C.due("nothing happened: things done", x.count(6), 1);
        C.due("nothing happened: GOOD", x.sleeper(0, 1), 1);
    }
}
