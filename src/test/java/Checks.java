/** What the tests share: telling a text, and comparing an answer with the one that is due. */
final class Checks {
    private int wrong;
    private int calls;

    void due(String call, long got, long want) {
        calls++;
        if (got != want) {
            wrong++;
            System.out.println(call + " answered " + got + ", due is " + want);
        }
    }

    void due(String call, boolean got, boolean want) {
        due(call, got ? 1 : 0, want ? 1 : 0);
    }

    void close(String name) {
        System.out.println(name + ": " + calls + " answers looked at, " + wrong + " not as due");
        if (wrong != 0) {
            System.exit(1);
        }
    }

    /** A new object that has read the text. */
    NextSleeper house(String text) {
        NextSleeper x = new NextSleeper();
        tape(x, text);
        due("read() of " + text, x.read(), 0);
        return x;
    }

    /** What a new object answers to the text: the fault and its place. */
    void fault(String text, int fault, int place) {
        NextSleeper x = new NextSleeper();
        tape(x, text);
        due("read() of " + text, x.read(), fault);
        due("place() of " + text, x.place(), place);
    }

    static void tape(NextSleeper x, String text) {
        int blanks = (20 - text.length() % 20) % 20;
        String padded = text + " ".repeat(blanks);
        for (int i = 0; i < padded.length(); i += 20) {
            int[] five = five(padded, i);
            x.feed(five[0], five[1], five[2], five[3], five[4]);
        }
        x.back(blanks);
    }

    static int[] five(String text, int from) {
        int[] five = new int[5];
        for (int i = 0; i < 20; i++) {
            five[i / 4] = five[i / 4] << 8 | text.charAt(from + i) & 255;
        }
        return five;
    }
}
