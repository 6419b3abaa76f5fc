/** Promises 43 and 44: held, gone on from. */
public final class SlotTest {
    private static final Checks C = new Checks();

    public static void main(String[] args) {
        wrongOnes();
        allIsHeld();
        severalSlots();
        napsOfTheNextHour();
        C.close("SlotTest");
    }

    private static void wrongOnes() {
        NextSleeper x = C.house(HourTest.HOUSE);
        C.due("hold(-1)", x.hold(-1), false);
        C.due("hold(3)", x.hold(3), false);
        C.due("restore(-1)", x.restore(-1), false);
        C.due("restore(3)", x.restore(3), false);
        x.hours(1);
        C.due("restore(0) of nothing", x.restore(0), false);
        C.due("nothing happened", x.count(6), 1);
        C.due("count(8)", x.count(8), 0);
    }

    private static void allIsHeld() {
        NextSleeper x = C.house(HourTest.HOUSE);
        x.hours(4);
        x.bed(1, 7);
        x.tell(0, 0, 0);
        C.due("hold(1)", x.hold(1), true);
        C.due("count(8)", x.count(8), 1);
        C.due("it is no thing done", x.count(6), 2);
        for (int time = 0; time < 2; time++) {
            x.wake(0);
            x.bed(0, 0);
            x.bed(1, 1);
            x.set(1);
            x.nap(1, 3);
            x.hours(100);
            x.tell(0, 0, 1);
            Checks.tape(x, "step");
            C.due("restore(1)", x.restore(1), true);
            int[] now = {0, 0, 4, 0, 4, 1, 3};
            for (int i = 0; i < now.length; i++) {
                C.due("now(" + i + ")", x.now(i), now[i]);
            }
            C.due("BED", x.sleeper(1, 3), 7);
            C.due("BED", x.sleeper(0, 3), 2);
            C.due("GOOD", x.sleeper(0, 1), 4);
            C.due("KNOWN STEPS", x.sleeper(0, 4), 5);
            C.due("asleep anew", x.sleeper(1, 5), 1);
            C.due("was", x.was(3, 1), 2);
            C.due("was not", x.was(4, 1), -1);
            C.due("nothing can be undone", x.undo(), false);
            C.due("TOLD stays", x.count(7), 2 + time);
            C.due("the tape stays", x.count(5), 4 * (time + 1));
            C.due("it is held still", x.count(8), 1);
        }
        x.hours(1);
        C.due("it goes on", x.was(4, 1), 0);
        C.due("by how often they dreamt it", x.now(0), 1);
        C.due("undo()", x.undo(), true);
        C.due("no further", x.undo(), false);
    }

    private static void severalSlots() {
        NextSleeper x = C.house(HourTest.HOUSE);
        x.nap(1, 2);
        x.hours(3);
        x.hold(0);
        C.due("restore(0)", x.restore(0), true);
        x.hold(2);
        x.hours(2);
        x.hold(1);
        C.due("count(8)", x.count(8), 3);
        x.hold(0);
        C.due("restore(2)", x.restore(2), true);
        C.due("hour", x.now(4), 3);
        x.set(1);
        x.hours(2);
        C.due("another way on", x.was(3, 1), 1);
        x.restore(1);
        C.due("hour", x.now(4), 5);
        C.due("the way that was held", x.was(3, 1), 2);
        x.restore(0);
        C.due("held anew", x.now(4), 5);
        C.due("undo() leaves SLOTS", x.count(8), 3);
    }

    private static void napsOfTheNextHour() {
        NextSleeper x = C.house(HourTest.HOUSE);
        x.nap(1, 2);
        x.hold(0);
        x.hours(3);
        x.restore(0);
        x.hours(1);
        C.due("who napped by hand dreams", x.was(0, 0), 1);
    }
}
