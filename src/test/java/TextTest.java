/** Promises 1 to 5 and 45: a new object, the tape, texts and their faults, counts. */
public final class TextTest {
    private static final Checks C = new Checks();
    private static final String SLEEPER = "sleeper s 0 1 0;";
    private static final String DOES = SLEEPER + "does s = ";

    public static void main(String[] args) {
        newObject();
        tape();
        byteOrder();
        faultless();
        tokens();
        syntax();
        lawSyntax();
        room();
        roomOfRoads();
        roomOfTokens();
        othersAndTheirOrder();
        whatAFaultLeaves();
        whatATextReplaces();
        lastOnesCount();
        C.close("TextTest");
    }

    private static void newObject() {
        NextSleeper x = new NextSleeper();
        int[] counts = {0, 0, 0, -2, 0, 0, 0, 0, 0, 0};
        for (int i = 0; i < counts.length; i++) {
            C.due("new: count(" + i + ")", x.count(i), counts[i]);
        }
        C.due("new: count(-1)", x.count(-1), -1);
        C.due("new: count(10)", x.count(10), -1);
        C.due("new: place()", x.place(), -1);
        C.due("NONE", NextSleeper.NONE, -1);
    }

    private static void tape() {
        NextSleeper x = new NextSleeper();
        C.due("back(1) of nothing", x.back(1), -1);
        C.due("back(0) of nothing", x.back(0), 0);
        for (int i = 1; i <= 100; i++) {
            C.due("feed", x.feed(0, 0, 0, 0, 0), 20 * i);
        }
        C.due("feed beyond 2000", x.feed(0, 0, 0, 0, 0), -1);
        C.due("count(5)", x.count(5), 2000);
        C.due("back(1)", x.back(1), 1999);
        C.due("feed to 2019", x.feed(0, 0, 0, 0, 0), -1);
        C.due("back(19)", x.back(19), 1980);
        C.due("feed to 2000", x.feed(0, 0, 0, 0, 0), 2000);
        C.due("back(-1)", x.back(-1), -1);
        C.due("back(2001)", x.back(2001), -1);
        C.due("back(MIN)", x.back(Integer.MIN_VALUE), -1);
        C.due("back(2000)", x.back(2000), 0);
        x.feed(-1, -1, -1, -1, -1);
        C.due("bytes of 255", x.read(), 1);
        C.due("read empties the tape", x.count(5), 0);
        C.due("an empty text", x.read(), 0);
    }

    private static void byteOrder() {
        NextSleeper x = new NextSleeper();
        x.feed(0x73746570, 0x20612031, 0x3b737465, 0x70206220, 0x323b2020);
        C.due("step a 1;step b 2;", x.read(), 0);
        C.due("its steps", x.count(0), 2);
    }

    private static void faultless() {
        for (String text : new String[] {"", " \t\n\r ", "step a 1;", "step a 9;", "step a -9;", "step a - 0 ends;",
            "step a1;", "step a1ends;", "stepa\t1\n;\r", "step abcdefgh 0009;", "naps 0;", "naps 100;", "seed 9999;",
            SLEEPER, "sleeper s 23 12 23;", "sleeper s23 12 23;", "step a 1;begins a;", "step steps 1;step iff 2;"}) {
            boolean oneWord = text.startsWith("stepa");
            C.fault(text, oneWord ? 1 : 0, oneWord ? 0 : -1);
        }
    }

    private static void tokens() {
        C.fault("step abcdefghi 1;", 1, 5);
        C.fault("step a 00001;", 1, 7);
        C.fault("step A 1;", 1, 5);
        C.fault("step aB 1;", 1, 6);
        C.fault("step a 1;#", 1, 9);
        C.fault("step a 1; \u000b", 1, 10);
        C.fault("\u0000", 1, 0);
        C.fault("\u00e9", 1, 0);
        C.fault("step a1b;", 1, 7);
        C.fault("step a_b 1;", 1, 6);
        for (String word : new String[] {"step", "ends", "road", "sleeper", "does", "begins", "naps", "seed", "if",
            "then", "else", "at", "good", "night", "dreamt", "ways", "left", "mood"}) {
            C.fault("step " + word + " 1;", 1, 5);
        }
    }

    private static void syntax() {
        C.fault(";", 1, 0);
        C.fault("a", 1, 0);
        C.fault("step", 1, 4);
        C.fault("step ", 1, 5);
        C.fault("step a", 1, 6);
        C.fault("step a -", 1, 8);
        C.fault("step a 1", 1, 8);
        C.fault("step a 1  \n", 1, 11);
        C.fault("step a --9;", 1, 8);
        C.fault("step a ends;", 1, 7);
        C.fault("step a 1 ends ends;", 1, 14);
        C.fault("step a 1 2;", 1, 9);
        C.fault("road a;", 1, 6);
        C.fault("road a a a;", 1, 9);
        C.fault("sleeper s 1 2;", 1, 13);
        C.fault("sleeper s -1 2 3;", 1, 10);
        C.fault("begins;", 1, 6);
        C.fault("naps a;", 1, 5);
        C.fault("naps -1;", 1, 5);
        C.fault("seed 1 1;", 1, 7);
        C.fault("seed 10000;", 1, 5);
        C.fault("does s 1;", 1, 7);
        C.fault("ends;", 1, 0);
        firstOfSeveral();
    }

    /** Behind a fault the text would go on, and another one comes. */
    private static void firstOfSeveral() {
        String[] broken = {"step ", "step a ", "step a - ", "step a 1 ", "step a 1 ends ", "road ", "road a ",
            "road a a ", "sleeper ", "sleeper s ", "sleeper s 0 ", "sleeper s 0 1 ", "sleeper s 0 1 0 ", "begins ",
            "begins a ", "naps ", "naps 1 ", "seed ", "seed 1 ", "does ", "does s ", "does s = ", "does s = 1+ ",
            "does s = (1 ", "does s = 2* ", "does s = if ", "does s = if 1 ", "does s = if 1< ", "does s = if 1<2 ",
            "does s = if 1<2 then ", "does s = if 1<2 then 3 ", "does s = if 1<2 then 3 else ", "does s = ( ",
            "does s = 1 "};
        C.fault("does s;#", 1, 6);
        C.fault("does s = ;#", 1, 9);
        C.fault("does s = if 1<2 then 3;#", 1, 22);
        for (String text : broken) {
            C.fault(text + "seed 1;#", 1, text.length());
            C.fault(text + "step a 1;;", 1, text.length());
            C.fault(text + "does s = 1;road", 1, text.length());
            C.fault(text, 1, text.length());
        }
    }

    private static void lawSyntax() {
        int at = DOES.length();
        for (String law : new String[] {"1", "at+good-night*dreamt/ways", "(left)", "((mood))*(1)", "1-(2-(3))",
            "if 1<2 then 3 else 4", "if at<(2) then if", "if 1<2 then 3 else if 4<5 then 6 else 7"}) {
            boolean broken = law.endsWith("then if");
            C.fault(DOES + law + ";", broken ? 1 : 0, broken ? at + law.length() - 2 : -1);
        }
        C.fault(DOES + ";", 1, at);
        C.fault(DOES, 1, at);
        C.fault(DOES + "-1;", 1, at);
        C.fault(DOES + "1+;", 1, at + 2);
        C.fault(DOES + "1 2;", 1, at + 2);
        C.fault(DOES + "s;", 1, at);
        C.fault(DOES + "(1;", 1, at + 2);
        C.fault(DOES + "1);", 1, at + 1);
        C.fault(DOES + "();", 1, at + 1);
        C.fault(DOES + "1<2;", 1, at + 1);
        C.fault(DOES + "(1<2);", 1, at + 2);
        C.fault(DOES + "if 1 then 2 else 3;", 1, at + 5);
        C.fault(DOES + "if 1<2<3 then 2 else 3;", 1, at + 6);
        C.fault(DOES + "if 1<2 then 3;", 1, at + 13);
        C.fault(DOES + "if 1<2 else 3;", 1, at + 7);
        C.fault(DOES + "(if 1<2 then 3 else 4);", 1, at + 1);
        C.fault(DOES + "1==2;", 1, at + 1);
    }

    private static String steps(int many) {
        StringBuilder text = new StringBuilder();
        for (int i = 0; i < many; i++) {
            text.append("step ").append((char) ('a' + i)).append(" 1;");
        }
        return text.toString();
    }

    private static String sleepers(int many) {
        StringBuilder text = new StringBuilder();
        for (int i = 0; i < many; i++) {
            text.append("sleeper ").append((char) ('u' + i)).append(" 0 1 0;");
        }
        return text.toString();
    }

    private static void room() {
        C.fault(steps(10), 0, -1);
        C.fault(steps(11), 2, 90);
        C.fault(steps(10) + "step", 2, 90);
        C.fault(steps(10) + " step step", 2, 91);
        C.fault(steps(9) + "step step", 1, 86);
        C.fault("step a 10;" + steps(9) + "step k 1;step", 2, 91);
        C.fault(sleepers(6), 0, -1);
        C.fault(sleepers(6) + "sleeper a 0 1 0;", 2, 96);
        C.fault("step a 1;".repeat(11), 2, 90);
        String one = "if 1<2 then 3 else ";
        C.fault(DOES + one.repeat(4) + "1;", 0, -1);
        C.fault(DOES + one.repeat(5) + "1;", 2, DOES.length() + 4 * one.length());
        C.fault(DOES + one.repeat(4) + "1;does s = " + one.repeat(4) + "1;", 0, -1);
        C.fault(DOES + "((((((1))))));", 0, -1);
        C.fault(DOES + "(((((((1)))))));", 2, DOES.length() + 6);
        C.fault(DOES + "1+((((((1))))))*((((((1))))));", 0, -1);
        C.fault(DOES + "(((((1+(1)+(1+(1)", 2, DOES.length() + 14);
        C.fault(DOES + "if ((((((1))))))<((((((1)))))) then ((((((1)))))) else ((((((1))))));", 0, -1);
        C.fault(DOES + "((((((1 (", 1, DOES.length() + 8);
    }

    private static void roomOfRoads() {
        String four = "road a a;".repeat(4);
        C.fault("step a 1;" + four, 0, -1);
        C.fault("step a 1;" + four + "road a a;", 2, 50);
        C.fault("step a 1;" + four + "road a", 2, 50);
        C.fault("step a 1;" + four + "road b a;", 4, 50);
        C.fault("step a 1;" + "road a b;".repeat(5), 2, 50);
        C.fault("step a 1;step a 2;" + four + "road a a;", 2, 59);
        C.fault(steps(6) + "road a b;road b b;road c b;road d b;road e b;".repeat(4), 0, -1);
        C.fault(steps(6) + "road a b;road b b;road c b;road d b;road e b;".repeat(4) + "road f f;", 2, 234);
        // Only a ROAD from a STEP told ahead counts as one of its ROADS.
        C.fault(four + "road a a;", 4, 5);
        C.fault("sleeper a 0 1 0;step a 1;" + four + "road a a;", 3, 21);
    }

    private static void roomOfTokens() {
        String full = "step a 1;" + "naps 1;".repeat(132);
        C.fault(full, 0, -1);
        C.fault(full + "  \n", 0, -1);
        C.fault(full + "naps 1;", 2, full.length());
        C.fault(full + ";", 1, full.length());
        C.fault(full + " #", 1, full.length() + 1);
        C.fault("naps 1;".repeat(133) + "seed 1;", 2, 133 * 7 + 5);
        C.fault("naps 1;".repeat(133) + "seed;", 1, 133 * 7 + 4);
        C.fault("naps 1;".repeat(133) + "seed", 1, 133 * 7 + 4);
        for (String tell : new String[] {"step b - 1 ends ;", "road a a ;", "sleeper t 1 2 3 ;", "begins a ;",
            "naps 2 ;", "seed 3 ;", "does s = if 1 < 2 then 3 else ( at + 2 ) * 3 - 4 / mood ;"}) {
            String[] tokens = tell.split(" ");
            int at = 0;
            for (int i = 0; i < tokens.length; i++) {
                String before = ahead(400 - i);
                C.fault(before + tell, 2, before.length() + at);
                at += tokens[i].length() + 1;
            }
            C.fault(ahead(400 - tokens.length) + tell, 0, -1);
        }
    }

    /** A text of so many TOKENS, some 20 or more, that tells a STEP a and a SLEEPER s. */
    private static String ahead(int tokens) {
        String told = "step a 1;sleeper s 0 1 0;" + "road a a;".repeat((tokens - 10) % 3);
        return told + "naps 1;".repeat((tokens - 10 - 4 * ((tokens - 10) % 3)) / 3);
    }

    private static void othersAndTheirOrder() {
        C.fault("step a 1;step a 2;", 3, 14);
        C.fault("step a 1;sleeper a 0 1 0;", 3, 17);
        C.fault("sleeper a 0 1 0;sleeper a 0 1 0;", 3, 24);
        C.fault("sleeper a 0 1 0;step a 0;", 3, 21);
        C.fault("road a a;", 4, 5);
        C.fault("step a 1;road a b;", 4, 16);
        C.fault("step a 1;road b a;", 4, 14);
        C.fault("road a a;step a 1;", 4, 5);
        C.fault(SLEEPER + "road s s;", 4, 21);
        C.fault("does s = 1;", 4, 5);
        C.fault("step s 1;does s = 1;", 4, 14);
        C.fault("does s = 1;" + SLEEPER, 4, 5);
        C.fault("begins a;", 4, 7);
        C.fault("begins a;step a 1;", 4, 7);
        C.fault(SLEEPER + "begins s;", 4, 23);
        C.fault("step a 10;", 5, 7);
        C.fault("step a - 10;", 5, 9);
        C.fault("sleeper s 24 1 0;", 5, 10);
        C.fault("sleeper s 0 0 0;", 5, 12);
        C.fault("sleeper s 0 13 0;", 5, 12);
        C.fault("sleeper s 0 12 24;", 5, 15);
        C.fault("naps 101;", 5, 5);
        C.fault("step a 10;road b b;", 5, 7);
        C.fault("road b b;step a 10;", 4, 5);
        C.fault("step a 1;step a 10;", 3, 14);
        C.fault("step a 10;step a 1;", 5, 7);
        C.fault("step a 10;road b b;step", 1, 23);
        C.fault("step a 10;" + DOES + "(((((((", 2, 10 + DOES.length() + 6);
    }

    private static void whatAFaultLeaves() {
        NextSleeper x = C.house("step a 1;step b 2;road a b;sleeper s 0 2 5;naps 3;begins b;");
        x.tell(0, 0, 0);
        x.hours(1);
        x.hold(1);
        Checks.tape(x, "step c 3 ends");
        C.due("a text with a fault", x.read(), 1);
        C.due("its place", x.place(), 13);
        int[] counts = {2, 1, 1, 1, 3, 0, 1, 1, 1, 1};
        for (int i = 0; i < counts.length; i++) {
            C.due("behind a fault: count(" + i + ")", x.count(i), counts[i]);
        }
        C.due("behind a fault: now(4)", x.now(4), 1);
        C.due("behind a fault: now(1)", x.now(1), 0);
        C.due("behind a fault: now(5)", x.now(5), 1);
        C.due("behind a fault: sleeper(0, 1)", x.sleeper(0, 1), 2);
        C.due("behind a fault: undo()", x.undo(), true);
        C.due("behind a fault: restore(1)", x.restore(1), true);
    }

    private static void whatATextReplaces() {
        NextSleeper x = C.house("step a 1;step b 2;road a b;sleeper s 0 2 5;naps 3;begins b;seed 4;");
        x.tell(0, 0, 0);
        x.hours(1);
        x.bed(0, 7);
        x.hold(0);
        x.hold(2);
        Checks.tape(x, "step c -3;sleeper t 9 4 8;");
        C.due("read()", x.read(), 0);
        C.due("place()", x.place(), -1);
        int[] counts = {1, 0, 1, 0, 0, 0, 0, 0, 0, 0};
        for (int i = 0; i < counts.length; i++) {
            C.due("another text: count(" + i + ")", x.count(i), counts[i]);
        }
        int[] now = {0, -2, 0, 0, 0, 0, 0};
        for (int i = 0; i < now.length; i++) {
            C.due("another text: now(" + i + ")", x.now(i), now[i]);
        }
        int[] sleeper = {0, 0, 0, 9, 0, 0};
        for (int i = 0; i < sleeper.length; i++) {
            C.due("another text: sleeper(0, " + i + ")", x.sleeper(0, i), sleeper[i]);
        }
        C.due("another text: was(0, 0)", x.was(0, 0), -1);
        C.due("another text: undo()", x.undo(), false);
        C.due("another text: restore(0)", x.restore(0), false);
        Checks.tape(x, "road c c;");
        C.due("names of the text ahead are forgotten", x.read(), 4);
        Checks.tape(x, "step a 1;sleeper t 9 4 8;naps 50;");
        C.due("read()", x.read(), 0);
        NextSleeper fresh = C.house("step a 1;sleeper t 9 4 8;naps 50;");
        for (int i = 1; i < 24; i++) {
            C.due("so is its SEED, in hour " + i, x.then(i, 5), fresh.then(i, 5));
        }
        C.due("nothing in place of it", x.read(), 0);
        C.due("count(0)", x.count(0), 0);
        C.due("now(0)", x.now(0), -2);
    }

    private static void lastOnesCount() {
        NextSleeper x = C.house("step a 1;step b 2;begins b;begins a;naps 5;naps 6;begins b;");
        C.due("BEGINS", x.count(3), 1);
        C.due("NAPS", x.count(4), 6);
        C.due("it stands at BEGINS", x.now(0), 1);
        x = C.house("step a 0;step b 0;step c 0;road a b;road a c;sleeper s 0 1 0;does s = 1;does s = 0;");
        x.hours(1);
        C.due("the last LAW", x.now(0), 1);
    }
}
