import java.util.List;

/** "Terms" and promises 1 to 5: the tape, what texts tell, and their FAULTS. */
final class TextEdges {
    private static final String SLEEPER = "sleeper s 0 1 0;";
    private static final String DOES = SLEEPER + "does s = ";
    private static final String[] WORDS = {"step", "ends", "road", "sleeper", "does", "begins", "naps", "seed", "if",
        "then", "else", "at", "good", "night", "dreamt", "ways", "left", "mood"};

    private TextEdges() { }

    static void look(Edge e) {
        newObject(e);
        feed(e);
        back(e);
        read(e);
        bytesOfAText(e);
        tokens(e);
        noTokens(e);
        grammar(e);
        stepsAndRoads(e);
        sleepers(e);
        lawsOfSleepers(e);
        beginsNapsAndSeed(e);
        syntax(e);
        room(e);
        others(e);
        inPlaceOfTheOneAhead(e);
    }

    private static void newObject(Edge e) {
        e.says("1", "Nothing is told.");
        NextSleeper x = new NextSleeper();
        e.dueRow("count", Edge.counts(x), 0, 0, 0, -2, 0, 0, 0, 0, 0, 0);
        e.dueRow("now", Edge.now(x), -2, -2, 0, 0, 0, 0, 0);
        e.dueRow("sleeper 0", Edge.sleeper(x, 0), -10000, -10000, -10000, -10000, -10000, -10000);
        e.due("place()", x.place(), -1);
        e.due("undo()", x.undo(), false);
        e.due("restore(0)", x.restore(0), false);
        e.due("then(600, 4)", x.then(600, 4), 600);
        e.due("hours(600)", x.hours(600), 600);
        e.due("was(599, 0)", x.was(599, 0), -2);
        NextSleeper empty = e.house("");
        e.due("it is as behind a text that tells nothing", Edge.all(new NextSleeper()).equals(Edge.all(empty)), true);
    }

    private static NextSleeper fed(int times) {
        NextSleeper x = new NextSleeper();
        for (int i = 0; i < times; i++) {
            x.feed(0x20202020, 0x20202020, 0x20202020, 0x20202020, 0x20202020);
        }
        return x;
    }

    private static void feed(Edge e) {
        e.says("2", "Twenty bytes, the highest of a first, come behind the tape: how many it has.");
        NextSleeper x = new NextSleeper();
        // "step a 1;road a a;##": each byte in its place, or another fault comes first.
        e.due("feed", x.feed(0x73746570, 0x20612031, 0x3b726f61, 0x64206120, 0x613b2323), 20);
        e.due("count(5)", x.count(5), 20);
        e.due("read()", x.read(), 1);
        e.due("place()", x.place(), 18);
        e.due("bytes above 127", x.feed(-1, 0x80818283, 0xfffefdfc, Integer.MIN_VALUE, Integer.MAX_VALUE), 20);
        e.due("feed", x.feed(0, 0, 0, 0, 0), 40);
        e.due("read()", x.read(), 1);
        e.due("place()", x.place(), 0);

        e.says("2", "NONE, and nothing comes, if it would have more than 2,000.");
        NextSleeper full = fed(99);
        e.due("count(5)", full.count(5), 1980);
        e.due("to 2000", full.feed(0x20202020, 0x20202020, 0x20202020, 0x20202020, 0x2020203b), 2000);
        e.due("a byte more than fits", full.feed(0, 0, 0, 0, 0), -1);
        e.due("nothing comes", full.count(5), 2000);
        e.due("back(1)", full.back(1), 1999);
        e.due("to 2019", full.feed(0, 0, 0, 0, 0), -1);
        e.due("nothing comes", full.count(5), 1999);
        e.due("back(18)", full.back(18), 1981);
        e.due("to 2001", full.feed(0, 0, 0, 0, 0), -1);
        e.due("not a part of them either", full.count(5), 1981);
        e.due("only blanks are there", full.read(), 0);
        e.due("room again", full.feed(0, 0, 0, 0, 0), 20);
    }

    private static void back(Edge e) {
        e.says("3", "The last n bytes of the tape go: how many it has.");
        NextSleeper x = new NextSleeper();
        Checks.tape(x, "step a 1;step b 1;##");
        e.due("back(0)", x.back(0), 20);
        e.due("back(1)", x.back(1), 19);
        e.due("back(1)", x.back(1), 18);
        e.due("what comes, comes behind the rest", x.feed(0x73746570, 0x20632031, 0x3b202020, 0x20202020, 0x20202020), 38);
        e.due("read()", x.read(), 0);
        e.due("count(0)", x.count(0), 3);
        Checks.tape(x, "####################");
        e.due("all of them", x.back(20), 0);
        e.due("read()", x.read(), 0);
        e.due("all of 2000", fed(100).back(2000), 0);

        e.says("3", "NONE, and nothing goes, if it has not so many, or n is below 0.");
        NextSleeper y = fed(1);
        e.due("back(21)", y.back(21), -1);
        e.due("back(-1)", y.back(-1), -1);
        e.due("back(MAX)", y.back(Integer.MAX_VALUE), -1);
        e.due("back(MIN)", y.back(Integer.MIN_VALUE), -1);
        e.due("nothing goes", y.count(5), 20);
        e.due("back(20)", y.back(20), 0);
        e.due("back(1) of none", y.back(1), -1);
        e.due("back(0) of none", y.back(0), 0);
        e.due("back(2001) of 2000", fed(100).back(2001), -1);
    }

    private static void read(Edge e) {
        e.says("4", "The tape, which is empty then, is read: 0, or the number of its FAULT.");
        NextSleeper x = new NextSleeper();
        e.due("an empty tape", x.read(), 0);
        String[] texts = {"step a 1;", "step", "step a 1;".repeat(11), "step a 1;step a 1;", "begins a;", "naps 101;"};
        for (int fault = 0; fault < texts.length; fault++) {
            Checks.tape(x, texts[fault]);
            e.due("read() of " + texts[fault], x.read(), fault);
            e.due("the tape is empty", x.count(5), 0);
        }
        e.due("a FAULT is not told again", x.read(), 0);

        e.says("5", "The byte of the latest read()'s FAULT; NONE without.");
        NextSleeper y = new NextSleeper();
        e.due("ahead of any read()", y.place(), -1);
        Checks.tape(y, "  ;");
        e.due("ahead of it", y.place(), -1);
        y.read();
        e.due("place()", y.place(), 2);
        Checks.tape(y, "step a 1");
        e.due("it stays while a tape is fed", y.place(), 2);
        y.hours(3);
        y.undo();
        y.hold(0);
        y.restore(0);
        e.due("whatever else is done", y.place(), 2);
        y.read();
        e.due("the text's end", y.place(), 8);
        Checks.tape(y, "step a 1;");
        y.read();
        e.due("a text without", y.place(), -1);
        Checks.tape(y, "#");
        y.read();
        e.due("byte 0", y.place(), 0);
        y.read();
        e.due("an empty text has none", y.place(), -1);
    }

    private static void bytesOfAText(Edge e) {
        e.says("Terms", "A TEXT has 2,000 bytes at most.");
        NextSleeper x = e.house("step a 1;" + " ".repeat(1982) + "step b 1;");
        e.due("the first and the last tell of 2000 bytes", x.count(0), 2);
        e.fault(" ".repeat(1999) + ";", 1, 1999);
        e.fault(" ".repeat(1996) + "step", 1, 2000);
        e.fault(" ".repeat(2000), 0, -1);
        e.fault("step a 1;" + " ".repeat(1985) + "road a", 1, 2000);
        e.fault("z".repeat(2000), 1, 0);
        e.fault("step a " + "1".repeat(1993), 1, 7);
    }

    private static void tokens(Edge e) {
        e.says("Terms", "TOKENS, the longest that can be, with blanks (9, 10, 13, 32) between or not:");
        e.fault("stepa 1;", 1, 0);
        e.fault("stepp a 1;", 1, 0);
        e.fault("step a1ends;", 0, -1);
        e.fault("step a-1ends;", 0, -1);
        e.fault("step a1end;", 1, 7);
        e.fault("step a1endss;", 1, 7);
        e.fault("step a 1 1;", 1, 9);
        e.fault("step a 11;", 5, 7);
        e.fault("sleeper s0 1 0;", 0, -1);
        e.fault("sleeper s 01 0;", 1, 14);
        e.fault("step if 1;", 1, 5);
        e.fault("step iff 1;", 0, -1);
        e.fault(DOES + "if1<2then3else4;", 0, -1);
        e.fault(DOES + "if1<2thenelse3;", 1, DOES.length() + 5);
        e.fault("\t\n\r step\t\n\r a\n1\r;\t", 0, -1);
        for (int c = 0; c < 256; c++) {
            boolean blank = c == 9 || c == 10 || c == 13 || c == 32;
            e.fault("step a 1;" + (char) c, blank ? 0 : 1, blank ? -1 : 9);
        }

        e.says("Terms", "NAMES (letters a .. z, 8 at most, none of the words in quotes),");
        e.fault("step abcdefgh 1;step ijklmnop 1;step qrstuvwx 1;step yz 1;", 0, -1);
        e.fault("step aaaaaaaa 1;step aaaaaaab 1;step baaaaaaa 1;step aaaaaaa 1;", 0, -1);
        e.fault("step aaaaaaaa 1;step aaaaaaaa 1;", 3, 21);
        e.fault("step aaaaaaaaa 1;", 1, 5);
        for (String word : WORDS) {
            e.fault("step " + word + " 1;", 1, 5);
            e.fault("sleeper " + word + " 1 1 1;", 1, 8);
            e.fault("begins " + word + ";", 1, 7);
            e.fault("step " + word.substring(1) + "x 1;", 0, -1);
            if (word.length() < 8) {
                e.fault("step " + word + "s 1;", 0, -1);
                e.fault("step x" + word + " 1;", 0, -1);
            }
        }

        e.says("Terms", "INTS (1 to 4 digits),");
        e.fault("step a 9;step b 09;step c 009;step d 0009;", 0, -1);
        e.fault("seed 9;seed 99;seed 999;seed 9999;seed 0000;", 0, -1);
        e.fault("seed 00009;", 1, 5);
        e.fault("seed 12345678901234567890;", 1, 5);

        e.says("Terms", "SIGNS ; = + - * / < ( ) .");
        e.fault(DOES + "if(at+1)*2/3-4<5 then 6 else 7;", 0, -1);
        for (char sign : ";=+-*/<()".toCharArray()) {
            e.fault("step a 1;" + sign, 1, 9);
        }
    }

    private static void noTokens(Edge e) {
        e.says("Terms", "A longer one, all else, is no TOKEN.");
        e.fault("step abcdefghi 1;", 1, 5);
        e.fault("step a 1;steproads", 1, 9);
        e.fault("step a 00001;", 1, 7);
        int law = DOES.length();
        for (int c = 0; c < 256; c++) {
            boolean blank = c == 9 || c == 10 || c == 13 || c == 32;
            boolean letter = c >= 'a' && c <= 'z';
            boolean digit = c >= '0' && c <= '9';
            e.fault("step a" + (char) c + "b 1;", letter ? 0 : 1, letter ? -1 : blank || digit || c == '-' ? 7 : 6);
            e.fault("step a 1" + (char) c + ";", blank ? 0 : digit ? 5 : 1, blank ? -1 : digit ? 7 : c == ';' ? 9 : 8);
            boolean joins = digit || c == '+' || c == '-' || c == '*' || c == '/';
            e.fault(DOES + "1" + (char) c + "1;", joins ? 0 : 1, joins ? -1 : blank || c == ';' ? law + 2 : law + 1);
        }
    }

    /** Behind each beginning: the tokens with which a text goes on. */
    private static final String[][] GOES_ON = {
        {"", "step road sleeper does begins naps seed"},
        {"step a 1 ;", "step road sleeper does begins naps seed"},
        {"step", "NAME"}, {"step a", "- INT"}, {"step a -", "INT"}, {"step a 1", "ends ;"}, {"step a 1 ends", ";"},
        {"step a - 1", "ends ;"}, {"road", "NAME"}, {"road a", "NAME"}, {"road a a", ";"}, {"sleeper", "NAME"},
        {"sleeper s", "INT"}, {"sleeper s 1", "INT"}, {"sleeper s 1 1", "INT"}, {"sleeper s 1 1 1", ";"},
        {"begins", "NAME"}, {"begins a", ";"}, {"naps", "INT"}, {"naps 1", ";"}, {"seed", "INT"}, {"seed 1", ";"},
        {"does", "NAME"}, {"does s", "="}, {"does s =", "if UNIT"}, {"does s = 1", "JOIN ;"},
        {"does s = at", "JOIN ;"}, {"does s = 1 +", "UNIT"}, {"does s = 1 -", "UNIT"}, {"does s = 1 *", "UNIT"},
        {"does s = 1 /", "UNIT"}, {"does s = (", "UNIT"}, {"does s = ( 1", "JOIN )"}, {"does s = ( 1 )", "JOIN ;"},
        {"does s = ( ( 1", "JOIN )"}, {"does s = ( ( 1 )", "JOIN )"}, {"does s = if", "UNIT"},
        {"does s = if 1", "JOIN <"}, {"does s = if ( 1", "JOIN )"}, {"does s = if 1 <", "UNIT"},
        {"does s = if 1 < 2", "JOIN then"}, {"does s = if 1 < 2 then", "UNIT"},
        {"does s = if 1 < 2 then 3", "JOIN else"}, {"does s = if 1 < 2 then 3 else", "if UNIT"},
        {"does s = if 1 < 2 then 3 else 4", "JOIN ;"}, {"does s = if 1 < 2 then 3 else if 4", "JOIN <"}};

    private static void grammar(Edge e) {
        e.says("Terms", "text: {TELL}. TELL: 'step' NAME ['-'] INT ['ends'] ';' | 'road' NAME NAME ';' | 'sleeper' NAME"
            + " INT INT INT ';' | 'does' NAME LAW ';' | 'begins' NAME ';' | 'naps' INT ';' | 'seed' INT ';'. LAW: '='"
            + " {'if' E '<' E 'then' E 'else'} E. E: PART {('+' | '-') PART}. PART: UNIT {('*' | '/') UNIT}. UNIT: INT |"
            + " VAR | '(' E ')'. VAR: 'at' | 'good' | 'night' | 'dreamt' | 'ways' | 'left' | 'mood'.");
        e.fault("step a 1;step b - 2;step c 3 ends;step d -4 ends;road a b;sleeper s 1 2 3;does s = 1;begins c;naps 5;"
            + "seed 6;does s = if 1<2 then 3 else if at<good then night else dreamt+ways-left*mood/(1);", 0, -1);
        for (String[] row : GOES_ON) {
            List<String> due = List.of(row[1].replace("UNIT", "INT VAR (").replace("JOIN", "+ - * /").split(" "));
            String ahead = row[0].isEmpty() ? "" : row[0] + " ";
            for (String word : WORDS) {
                boolean goesOn = due.contains(word) || due.contains("VAR") && List.of(WORDS).indexOf(word) >= 11;
                goesOn(e, ahead, word, goesOn);
            }
            for (String sign : new String[] {";", "=", "+", "-", "*", "/", "<", "(", ")"}) {
                goesOn(e, ahead, sign, due.contains(sign));
            }
            goesOn(e, ahead, "x", due.contains("NAME"));
            goesOn(e, ahead, "1", due.contains("INT"));
            goesOn(e, ahead, "#", false);
        }
    }

    private static void goesOn(Edge e, String ahead, String token, boolean goesOn) {
        NextSleeper x = new NextSleeper();
        Checks.tape(x, ahead + token);
        boolean stops = x.read() == 1 && x.place() == ahead.length();
        e.due("does a text go on with " + ahead + "<" + token + ">", !stops, goesOn);
    }

    private static String steps(int many) {
        StringBuilder text = new StringBuilder();
        for (int i = 0; i < many; i++) {
            text.append("step ").append((char) ('a' + i)).append(" 1;");
        }
        return text.toString();
    }

    private static String sleepersTold(int many) {
        StringBuilder text = new StringBuilder();
        for (int i = 0; i < many; i++) {
            text.append("sleeper ").append((char) ('u' + i)).append(' ').append(i).append(" 1 0;");
        }
        return text.toString();
    }

    private static void stepsAndRoads(Edge e) {
        e.says("Terms", "STEPS, 10 at most (a NAME, GOOD -9 .. 9, whether it ENDS),");
        e.due("ten STEPS", e.house(steps(10)).count(0), 10);
        e.fault(steps(11), 2, 90);
        NextSleeper x = e.house("step a -9;step b 9;step c -0;road a b;road b c;road c a;sleeper s 0 3 0;");
        x.hours(3);
        e.dueRow("STEPS dreamt", Edge.steps(x), 0, 1, 2);
        e.due("GOOD", x.sleeper(0, 1), 0);
        e.due("-9 is theirs", x.best(1, 0), -9);
        x.set(1);
        e.due("9 is theirs", x.best(1, 0), 9);
        e.fault("step a -10;", 5, 8);
        e.fault("step a 10;", 5, 7);
        e.due("it ENDS, though a ROAD leads on", e.house("step a 1 ends;road a a;").trapped(), 0);
        e.due("it does not", e.house("step a 1;road a a;").trapped(), 1);

        e.says("Terms", "ROADS, 20 at most (from STEP to STEP), numbered from 0 on as they stand; those from one STEP by"
            + " themselves, 4 at most.");
        String twenty = steps(5) + "road a b;road b c;road c d;road d e;road e a;".repeat(4);
        e.due("twenty ROADS", e.house(twenty).count(1), 20);
        e.fault(twenty + "road a b;", 2, twenty.length());
        for (int law = 0; law < 5; law++) {
            NextSleeper y = e.house("step a 0;step b 0;step c 0;step d 0;step e 0;road b e;road a e;road c e;road a c;"
                + "road d e;road a d;road a b;" + DOES + law + ";");
            y.hours(1);
            e.due("by ROAD " + law, y.now(0), new int[] {4, 2, 3, 1, 4}[law]);
        }
        NextSleeper twice = e.house("step a 0;step b 0;road a b;road a b;road a a;" + DOES + "1;");
        twice.hours(1);
        e.due("two ROADS to one STEP are two", twice.now(0), 1);
        NextSleeper fourth = e.house(steps(10) + "road j a;road j b;road j c;road j d;begins j;" + DOES + "3;");
        fourth.hours(1);
        e.due("the 4th ROAD from the 10th STEP", fourth.now(0), 3);
    }

    private static void sleepers(Edge e) {
        e.says("Terms", "SLEEPERS, 6 at most (a NAME, BED 0 .. 23, for how many hours 1 .. 12, OTHER BED 0 .. 23).");
        NextSleeper x = e.house(sleepersTold(6));
        e.due("six SLEEPERS", x.count(2), 6);
        for (int i = 0; i < 6; i++) {
            e.due("BED of " + i, x.sleeper(i, 3), i);
        }
        e.due("no seventh", x.sleeper(6, 3), -10000);
        e.fault(sleepersTold(6) + "sleeper a 0 1 0;", 2, 96);
        e.fault("sleeper a 0 1 0;sleeper b 23 12 23;", 0, -1);
        e.fault("sleeper a 24 1 0;", 5, 10);
        e.fault("sleeper a 0 0 0;", 5, 12);
        e.fault("sleeper a 0 13 0;", 5, 12);
        e.fault("sleeper a 0 1 24;", 5, 14);
        e.fault("sleeper a 9999 9999 9999;", 5, 10);
        NextSleeper y = e.house("step a 1;road a a;sleeper s 0 12 0;sleeper t 23 1 0;");
        y.hours(1);
        e.due("twelve hours, one went by", y.sleeper(0, 0), 11);
        y.hours(22);
        e.due("BED 23", y.then(1, 6), 0);
        y.hours(1);
        e.due("asleep for one hour", y.sleeper(1, 5), 1);
    }

    private static void lawsOfSleepers(Edge e) {
        String hall = "step a 0;step b 0;step c 0;step d 0;road a b;road a c;road a d;sleeper s 0 1 0;sleeper t 1 1 0;";
        e.says("Terms", "DOES of a SLEEPER: a LAW (0, if not told; the last one).");
        e.due("not told", e.house(hall).then(1, 0), 1);
        e.due("told", e.house(hall + "does s = 2;").then(1, 0), 3);
        e.due("the last one", e.house(hall + "does s = 2;does s = 1;").then(1, 0), 2);
        e.due("another one's", e.house(hall + "does t = 2;").then(1, 0), 1);
        e.due("the last one of each", e.house(hall + "does s = 1;does t = 1;does s = 2;does t = 0;").then(1, 0), 3);
        e.due("three times", e.house(hall + "does s = 1;does s = 2;does s = if 1<0 then 1 else 0;").then(1, 0), 1);
        e.due("ifs of one do not reach into the next",
            e.house(hall + "does s = if 2<1 then 1 else 2;does t = 1;").then(1, 0), 3);
    }

    private static void beginsNapsAndSeed(Edge e) {
        e.says("Terms", "BEGINS: a STEP (STEP 0; the last one).");
        e.due("not told", e.house("step a 0;step b 0;").now(0), 0);
        e.due("told", e.house("step a 0;step b 0;begins b;").now(0), 1);
        e.due("the last one", e.house("step a 0;step b 0;begins b;begins a;").now(0), 0);
        e.due("a STEP told behind it is not looked at", e.house("step a 0;begins a;step b 0;").count(3), 0);
        e.due("the tenth STEP", e.house(steps(10) + "begins j;").count(3), 9);
        e.due("there are none", e.house("naps 1;").count(3), -2);

        e.says("Terms", "NAPS 0 .. 100 (0), SEED 0 .. 9999 (0): the last one.");
        e.due("not told", e.house("step a 0;").count(4), 0);
        e.due("the least", e.house("naps 0;").count(4), 0);
        e.due("the most", e.house("naps 100;").count(4), 100);
        e.due("the last one", e.house("naps 7;naps 100;naps 9;").count(4), 9);
        e.fault("naps 101;", 5, 5);
        e.fault("naps 9999;", 5, 5);
        e.fault("naps 1;naps 101;naps 1;", 5, 12);
        String naps = "step a 0;sleeper s 23 1 0;naps 50;";
        String zero = Edge.all(e.house(naps + "seed 0;"));
        e.due("SEED not told is 0", Edge.all(e.house(naps)).equals(zero), true);
        e.due("the last one", Edge.all(e.house(naps + "seed 9999;seed 0;")).equals(zero), true);
        e.due("another one", Edge.all(e.house(naps + "seed 9999;")).equals(zero), false);
        e.fault("seed 9999;", 0, -1);
        e.fault("seed 10000;", 1, 5);
    }

    private static void syntax(Edge e) {
        e.says("Terms", "FAULTS of a text, the first by its place (a byte; the text's end: its length), of one place the"
            + " least:");
        e.fault("step a 10;step a 1;road z z", 1, 27);
        e.fault("step a 1", 1, 8);
        e.fault("step a 1 \n", 1, 10);
        e.fault("# #", 1, 0);
        e.fault("step a 1;step A 1;step B", 1, 14);
        e.fault(steps(11) + "#", 2, 90);
        e.fault(steps(9) + "#" + steps(11), 1, 81);
        e.fault("sleeper s 24 0 24;", 5, 10);
        // A 401st TOKEN with which no text goes on either.
        e.fault("naps 1;".repeat(133) + "naps;", 1, 133 * 7 + 4);
        e.fault("naps 1;".repeat(133) + "naps 1;", 2, 133 * 7 + 5);

        e.says("Terms", "1 SYNTAX: a TOKEN, or what is none, with which no text goes on.");
        e.fault(";", 1, 0);
        e.fault("step a 1;;", 1, 9);
        e.fault("step a 1;1", 1, 9);
        e.fault("step a 1;abcdefghi", 1, 9);
        e.fault("step a 1 12345;", 1, 9);
        e.fault("step a 1\u0000;", 1, 8);
        e.fault("step a 1;\u00ff", 1, 9);
        // An 11th step, a 5th if, a 7th ( where none may stand.
        e.fault(steps(10) + "road step", 1, 95);
        e.fault(DOES + "if 1<2 then 3 else ".repeat(4) + "1 if", 1, DOES.length() + 4 * 19 + 2);
        e.fault(DOES + "((((((1 (", 1, DOES.length() + 8);
    }

    private static void room(Edge e) {
        e.says("Terms", "2 ROOM: a 401st TOKEN;");
        String most = "step a 1;" + "seed 1;".repeat(132);
        e.fault(most, 0, -1);
        e.fault(most + " \n ", 0, -1);
        e.fault(most + "\nseed", 2, most.length() + 1);
        e.fault(most + "seed 1;".repeat(20), 2, most.length());
        e.fault("seed 1;".repeat(200), 2, 133 * 7 + 5);
        e.fault(DOES + "1+".repeat(300) + "1;", 2, DOES.length() + 391);
        e.fault(DOES + "1+".repeat(195) + "1;", 2, DOES.length() + 391);
        e.fault("step a -1;" + DOES + "1+".repeat(192) + "1;", 0, -1);
        e.fault("step a -1;" + DOES + "1+".repeat(192) + "1; #", 1, 10 + DOES.length() + 387);
        e.fault("naps 101;" + "seed 1;".repeat(133), 2, 9 + 132 * 7 + 5);

        e.says("Terms", "one more of a sort than told (at its first TOKEN);");
        e.fault(steps(10) + "naps 1; step k 1;", 2, 98);
        e.fault(steps(10) + "step", 2, 90);
        e.fault(sleepersTold(6) + " sleeper", 2, 97);
        String roads = steps(5) + "road a b;road b c;road c d;road d e;road e a;".repeat(4);
        e.fault(roads + "road", 2, roads.length());
        e.fault(roads + " road z z;", 2, roads.length() + 1);
        // Also the 5th from a: but that comes at a later byte.
        e.fault(roads + "road a a;", 2, roads.length());
        e.fault("step a 1;".repeat(11), 2, 90);
        e.fault(steps(10) + sleepersTold(6) + "road a a;begins a;does u = 1;naps 1;seed 1;", 0, -1);
        e.fault("begins a;".repeat(11), 4, 7);
        e.fault("naps 1;".repeat(21) + "seed 2;".repeat(21) + DOES + "1;" + "does s = 2;".repeat(21), 0, -1);

        e.says("Terms", "a 5th ROAD from a STEP (at its first NAME);");
        String four = "step a 1;step b 1;" + "road a b;".repeat(4);
        e.fault(four, 0, -1);
        e.fault(four + "road b a;road b a;road b a;road b a;", 0, -1);
        e.fault(four + "road  a", 2, four.length() + 6);
        e.fault(four + "road a;", 2, four.length() + 5);
        e.fault(four + "road b a;road a b;", 2, four.length() + 14);
        e.fault("step a 10;" + "road a z;".repeat(5), 2, 51);
        e.fault("step a 1;step b 1;" + "road b a;".repeat(4) + "road a b;".repeat(4), 0, -1);

        e.says("Terms", "a 5th if of a LAW (at it);");
        String one = "if 1<2 then 3 else ";
        e.fault(DOES + one.repeat(4) + "1;", 0, -1);
        e.fault(DOES + one.repeat(4) + " if", 2, DOES.length() + 4 * one.length() + 1);
        e.fault(DOES + one.repeat(3) + "1;does s = " + one.repeat(4) + "1;does s = " + one + "2;", 0, -1);
        e.fault(DOES + one.repeat(3) + "1;does s = " + one.repeat(5) + "1;", 2,
            DOES.length() + 3 * one.length() + 11 + 4 * one.length());

        e.says("Terms", "a 7th ( within one another (at it).");
        e.fault(DOES + "((((((1))))));", 0, -1);
        e.fault(DOES + "(((((((1)))))));", 2, DOES.length() + 6);
        e.fault(DOES + "((((((1+ (", 2, DOES.length() + 9);
        e.fault(DOES + "((((((1)+(2)*(3)-(4)/(5)))))+(6));", 0, -1);
        e.fault(DOES + "(1)+(1)+(1)+(1)+(1)+(1)+(1)+(1);", 0, -1);
        e.fault(DOES + "if ((((((1))))))<((((((2)))))) then ((((((3)))))) else ((((((4))))));", 0, -1);
        e.fault(DOES + "if 1<2 then (((((((", 2, DOES.length() + 18);
        e.fault(DOES + "if 1<(((((((", 2, DOES.length() + 11);
    }

    private static void others(Edge e) {
        e.says("Terms", "If there is none, likewise:");
        e.fault("step a 10;step a 1;step", 1, 23);
        e.fault("naps 101;" + steps(11), 2, 99);
        e.fault("road a a;step b 10;step b 1;", 4, 5);
        e.fault("step b 10;step b 1;road a a;", 5, 7);
        e.fault("step b 1;step b 10;road a a;", 3, 14);
        e.fault("road a b;", 4, 5);

        e.says("Terms", "3 TWICE: a NAME told already (all together).");
        e.fault("step a 1;step a 1;", 3, 14);
        e.fault("sleeper a 0 1 0;sleeper a 0 1 0;", 3, 24);
        e.fault("step a 1;sleeper a 0 1 0;", 3, 17);
        e.fault("sleeper a 0 1 0;step a 1;", 3, 21);
        e.fault(steps(10) + "sleeper j 0 1 0;", 3, 98);
        e.fault("step a 1;step b 1;step c 1;step b 1;step a 1;", 3, 32);
        e.fault("step a 1;road a a;road a a;begins a;begins a;", 0, -1);

        e.says("Terms", "4 NAME: (at it) no such STEP, SLEEPER told ahead (a NAME told more than once is that of the first"
            + " one).");
        e.fault("step a 1;road a b;", 4, 16);
        e.fault("step a 1;road b a;", 4, 14);
        e.fault("step a 1;road a b;step b 1;", 4, 16);
        e.fault("begins a;step a 1;", 4, 7);
        e.fault("does s = 1;" + SLEEPER, 4, 5);
        e.fault(SLEEPER + "road s s;", 4, 21);
        e.fault(SLEEPER + "begins s;", 4, 23);
        e.fault("step a 1;does a = 1;", 4, 14);
        e.fault(SLEEPER + "does t = 1/0;", 4, 21);
        e.fault("step a 1;step a 1;" + "road a a;".repeat(5), 2, 18 + 4 * 9 + 5);

        e.says("Terms", "5 WRONG (at the INT): a number not as told above.");
        e.fault("step a  10;", 5, 8);
        e.fault("step a - 10;", 5, 9);
        e.fault("step a 9999;", 5, 7);
        e.fault("sleeper s 24 1 0;", 5, 10);
        e.fault("sleeper s 0 13 24;", 5, 12);
        e.fault("sleeper s 23 0 0;", 5, 13);
        e.fault("sleeper s 23 12 24;", 5, 16);
        e.fault("naps 101;", 5, 5);
        e.fault(DOES + "9999+0000;", 0, -1);
    }

    private static NextSleeper used(Edge e) {
        NextSleeper x = e.house("step a 1;step b 2;road a b;sleeper s 1 3 5;sleeper t 0 2 9;naps 3;begins b;seed 4;");
        x.tell(0, 0, 0);
        x.hours(2);
        x.nap(0, 5);
        x.set(0);
        x.hold(1);
        x.hold(2);
        x.bed(0, 20);
        return x;
    }

    private static void inPlaceOfTheOneAhead(Edge e) {
        e.says("Terms", "A text with a FAULT changes nothing but the tape;");
        String[] faulty = {"step", "step a 1;".repeat(11), "step z 1;step z 1;", "step z 1;begins y;",
            "step z 1;sleeper y 0 1 0;naps 101;"};
        NextSleeper x = used(e);
        Checks.tape(x, "#");
        x.read();
        String before = Edge.all(x);
        for (int i = 0; i < faulty.length; i++) {
            Checks.tape(x, faulty[i]);
            e.due("read() of " + faulty[i], x.read(), i + 1);
            Checks.tape(x, "#");
            e.due("read()", x.read(), 1);
            e.due("all is as it was behind " + faulty[i], Edge.all(x).equals(before), true);
        }
        e.due("undo() of bed", x.undo(), true);
        e.due("BED", x.sleeper(0, 3), 1);
        e.due("restore(1)", x.restore(1), true);
        e.due("what was held", x.now(4), 2);

        e.says("Terms", "else it is in place of the one ahead: hour 0, all awake, nobody dreams, the dream stands at BEGINS,"
            + " nothing was dreamt, nothing can be undone, nothing is TOLD, SLOTS hold nothing.");
        NextSleeper y = used(e);
        String text = "step c 3;step d 4;road c d;sleeper t 9 4 8;begins d;";
        Checks.tape(y, text);
        e.due("read()", y.read(), 0);
        e.dueRow("count", Edge.counts(y), 2, 1, 1, 1, 0, 0, 0, 0, 0, 0);
        e.dueRow("now", Edge.now(y), 1, -2, 0, 0, 0, 0, 0);
        e.dueRow("sleeper", Edge.sleeper(y, 0), 0, 0, 0, 9, 0, 0);
        e.due("was(0, 0)", y.was(0, 0), -1);
        e.due("knows(0)", y.knows(0), 0);
        e.due("undo()", y.undo(), false);
        e.due("restore(1)", y.restore(1), false);
        e.due("it is as a new one", Edge.all(y).equals(Edge.all(e.house(text))), true);
        NextSleeper again = used(e);
        Checks.tape(again, "step a 1;step b 2;road a b;sleeper s 1 3 5;sleeper t 0 2 9;naps 3;begins b;seed 4;");
        again.read();
        e.due("the same text again is a new one too", again.now(4) + again.count(6) + again.count(7) + again.count(8), 0);
        Checks.tape(again, "road a a;");
        e.due("NAMES of the one ahead are none of its", again.read(), 4);
        NextSleeper none = used(e);
        e.due("an empty text", none.read(), 0);
        e.due("is one too", Edge.all(none).equals(Edge.all(new NextSleeper())), true);
    }
}
