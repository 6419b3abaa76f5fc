/** What the tests by sentences share: the sentence that is looked at, answers, and all that can be seen of an object. */
final class Edge {
    private final Checks checks = new Checks();
    private final Doc doc = new Doc();
    private String sentence = "";
    private int looked = 1;

    /** The checks that follow are for these words of the document. */
    void says(String section, String words) {
        closeSentence();
        sentence = "[" + section + "] " + words;
        looked = 0;
        checks.due(sentence + "\n    does the document say so", doc.quote(section, words), true);
    }

    private void closeSentence() {
        checks.due(sentence + "\n    is it looked at", looked > 0, true);
    }

    void due(String call, long got, long want) {
        looked++;
        checks.due(sentence + "\n    " + call, got, want);
    }

    void due(String call, boolean got, boolean want) {
        due(call, got ? 1 : 0, want ? 1 : 0);
    }

    void dueRow(String call, int[] got, int... want) {
        due(call + ": how many", got.length, want.length);
        for (int i = 0; i < Math.min(got.length, want.length); i++) {
            due(call + " of " + i, got[i], want[i]);
        }
    }

    NextSleeper house(String text) {
        NextSleeper x = new NextSleeper();
        Checks.tape(x, text);
        due("read() of " + text, x.read(), 0);
        return x;
    }

    void fault(String text, int fault, int place) {
        NextSleeper x = new NextSleeper();
        Checks.tape(x, text);
        due("read() of " + text, x.read(), fault);
        due("place() of " + text, x.place(), place);
    }

    void close(String name) {
        closeSentence();
        for (String part : doc.unquoted()) {
            checks.due("no test is for: " + part, 1, 0);
        }
        checks.close(name);
    }

    static int[] now(NextSleeper x) {
        int[] all = new int[7];
        for (int i = 0; i < all.length; i++) {
            all[i] = x.now(i);
        }
        return all;
    }

    static int[] sleeper(NextSleeper x, int who) {
        int[] all = new int[6];
        for (int i = 0; i < all.length; i++) {
            all[i] = x.sleeper(who, i);
        }
        return all;
    }

    static int[] counts(NextSleeper x) {
        int[] all = new int[10];
        for (int i = 0; i < all.length; i++) {
            all[i] = x.count(i);
        }
        return all;
    }

    /** The STEPS dreamt so far, -2 for an hour in which none was. */
    static int[] steps(NextSleeper x) {
        int[] all = new int[x.now(4)];
        for (int i = 0; i < all.length; i++) {
            all[i] = x.was(i, 1);
        }
        return all;
    }

    /** Who DREAMT in the hours so far. */
    static int[] dreamers(NextSleeper x) {
        int[] all = new int[x.now(4)];
        for (int i = 0; i < all.length; i++) {
            all[i] = x.was(i, 0);
        }
        return all;
    }

    /** All answers that tell how an object stands, without changing it. */
    static String all(NextSleeper x) {
        StringBuilder all = new StringBuilder();
        for (int[] row : new int[][] {now(x), counts(x), steps(x), dreamers(x)}) {
            all.append(java.util.Arrays.toString(row));
        }
        for (int i = -1; i < 10; i++) {
            all.append(java.util.Arrays.toString(sleeper(x, i))).append(x.best(9, i)).append(' ').append(x.line(i))
                .append(' ').append(x.far(i)).append(' ').append(x.needed(i)).append(' ').append(x.knows(i)).append(' ')
                .append(x.when(i, true)).append(' ').append(x.longest(i)).append(' ').append(x.rests(30, i)).append(' ')
                .append(x.bestBed(i, 30, 0)).append(' ').append(x.gains(i, 99)).append(' ')
                .append(x.fits(i, x.count(7), -1)).append(' ').append(x.doubt(i, x.count(7))).append(' ');
            for (int n = 0; n < 30; n++) {
                all.append(x.then(n, i)).append(' ');
            }
        }
        all.append(x.place()).append(' ').append(x.ends()).append(' ').append(x.fair(0)).append(' ').append(x.round(0))
            .append(' ').append(x.reach()).append(' ').append(x.trapped()).append(' ').append(x.bestStart(30, 0))
            .append(' ').append(x.free(0)).append(' ').append(x.luckiest(0)).append(' ').append(x.mean(3, 99));
        return all.toString();
    }
}
