import java.util.ArrayList;
import java.util.List;
import java.util.Random;

/** Texts drawn by chance, with and without faults. */
final class TextMaker {
    private static final String[] NAMES = {"a", "b", "hall", "wood", "sea", "pit", "ann", "bob", "cat", "abcdefgh",
        "x", "y", "z", "steps", "iff", "q"};
    private static final String[] VARS = {"at", "good", "night", "dreamt", "ways", "left", "mood"};
    private static final String[] PIECES = {"step", "ends", "road", "sleeper", "does", "begins", "naps", "seed", "if",
        "then", "else", "at", "mood", ";", "=", "+", "-", "*", "/", "<", "(", ")", "0", "9", "10", "23", "24", "12",
        "13", "100", "101", "9999", "12345", "abcdefghi", "hall", "a", "b", "#", "A", "\u00e9", "\u0000", "((((((("};

    private TextMaker() { }

    static String faultless(Random random) {
        return joined(random, tells(random, true));
    }

    static String faulty(Random random) {
        List<String> tokens = tells(random, random.nextInt(3) > 0);
        int changes = random.nextInt(4);
        for (int i = 0; i < changes; i++) {
            int at = tokens.isEmpty() ? 0 : random.nextInt(tokens.size());
            String piece = PIECES[random.nextInt(PIECES.length)];
            switch (random.nextInt(5)) {
                case 0:
                    tokens.add(at, piece);
                    break;
                case 1:
                    if (!tokens.isEmpty()) {
                        tokens.remove(at);
                    }
                    break;
                case 2:
                    if (!tokens.isEmpty()) {
                        tokens.set(at, piece);
                    }
                    break;
                case 3:
                    if (random.nextInt(3) == 0) {
                        tokens = new ArrayList<>(tokens.subList(0, at));
                    }
                    break;
                default:
                    tokens.addAll(random.nextBoolean() ? 0 : tokens.size(), tells(random, true));
                    break;
            }
        }
        return joined(random, tokens);
    }

    private static String joined(Random random, List<String> tokens) {
        StringBuilder text = new StringBuilder();
        String before = "";
        for (String token : tokens) {
            boolean apart = !before.isEmpty() && Character.isLetterOrDigit(before.charAt(before.length() - 1))
                && Character.isLetterOrDigit(token.charAt(0));
            if (apart || random.nextInt(10) == 0) {
                text.append("    \t\n\r".charAt(random.nextInt(7)));
            }
            text.append(token);
            before = token;
        }
        return text.length() > 2000 ? text.substring(0, 2000) : text.toString();
    }

    private static void add(List<String> tokens, String tell) {
        for (String token : tell.split(" ")) {
            if (!token.isEmpty()) {
                tokens.add(token);
            }
        }
    }

    /** Tells of a house; careful: with no fault in them. */
    private static List<String> tells(Random random, boolean careful) {
        List<String> tokens = new ArrayList<>();
        int extra = careful || random.nextInt(4) > 0 ? 0 : 1;
        int steps = random.nextInt(8) == 0 ? random.nextInt(3) : 1 + random.nextInt(10 + extra);
        int sleepers = random.nextInt(8) == 0 ? 0 : 1 + random.nextInt(random.nextBoolean() ? 3 : 6 + extra);
        List<String> names = new ArrayList<>(List.of(NAMES));
        java.util.Collections.shuffle(names, random);
        List<String> stepNames = new ArrayList<>();
        for (int i = 0; i < steps; i++) {
            String name = careful || random.nextInt(25) > 0 ? names.get(i) : names.get(random.nextInt(16));
            stepNames.add(name);
            int most = careful || random.nextInt(20) > 0 ? 10 : 30;
            add(tokens, "step " + name + (random.nextBoolean() ? " - " : " ") + random.nextInt(most)
                + (random.nextInt(5) == 0 ? " ends ;" : " ;"));
        }
        roads(random, tokens, stepNames, careful);
        for (int i = 0; i < sleepers; i++) {
            String name = careful || random.nextInt(25) > 0 ? names.get(Math.min(15, 10 + i))
                : names.get(random.nextInt(16));
            int wide = careful || random.nextInt(20) > 0 ? 0 : 3;
            int bed = random.nextBoolean() ? random.nextInt(24) : random.nextInt(6);
            add(tokens, "sleeper " + name + " " + (bed + wide) + " " + (1 - wide / 3 + random.nextInt(12 + wide)) + " "
                + random.nextInt(24 + wide) + " ;");
            if (random.nextInt(5) > 0) {
                add(tokens, "does " + name + " " + law(random, careful) + " ;");
            }
        }
        if (steps > 0 && random.nextInt(3) == 0) {
            add(tokens, "begins " + stepNames.get(random.nextInt(steps)) + " ;");
        }
        if (random.nextInt(2) == 0) {
            add(tokens, "naps " + random.nextInt(careful || random.nextInt(9) > 0 ? random.nextBoolean() ? 20 : 101 : 200)
                + " ;");
        }
        if (random.nextInt(2) == 0) {
            add(tokens, "seed " + random.nextInt(10000) + " ;");
        }
        return tokens;
    }

    private static void roads(Random random, List<String> tokens, List<String> steps, boolean careful) {
        if (steps.isEmpty()) {
            return;
        }
        int roads = random.nextInt(careful ? 21 : 23);
        int[] from = new int[steps.size()];
        for (int i = 0; i < roads; i++) {
            int step = random.nextInt(steps.size());
            if (careful && from[step] == 4) {
                continue;
            }
            from[step]++;
            String other = steps.get(random.nextInt(steps.size()));
            boolean known = careful || random.nextInt(40) > 0;
            add(tokens, "road " + steps.get(step) + " " + (known ? other : NAMES[random.nextInt(16)]) + " ;");
        }
    }

    private static String law(Random random, boolean careful) {
        StringBuilder law = new StringBuilder("= ");
        int ifs = random.nextBoolean() ? 0 : random.nextInt(careful || random.nextInt(5) > 0 ? 3 : 6);
        for (int i = 0; i < ifs; i++) {
            law.append("if ").append(sum(random, 1)).append("< ").append(sum(random, 1)).append("then ")
                .append(sum(random, 1)).append("else ");
        }
        if (!careful && random.nextInt(10) == 0) {
            int deep = 5 + random.nextInt(3);
            return law + "( ".repeat(deep) + "1 " + ") ".repeat(deep);
        }
        return law.append(sum(random, 2)).toString();
    }

    private static String sum(Random random, int deep) {
        StringBuilder sum = new StringBuilder(unit(random, deep));
        int more = random.nextInt(3);
        for (int i = 0; i < more; i++) {
            sum.append("+-*/".charAt(random.nextInt(4))).append(' ').append(unit(random, deep));
        }
        return sum.toString();
    }

    private static String unit(Random random, int deep) {
        if (deep > 0 && random.nextInt(4) == 0) {
            return "( " + sum(random, deep - 1) + ") ";
        }
        return (random.nextInt(3) > 0 ? VARS[random.nextInt(7)]
            : "" + random.nextInt(random.nextInt(4) == 0 ? 10000 : 6)) + " ";
    }
}
