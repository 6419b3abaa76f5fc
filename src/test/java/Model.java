import java.util.ArrayList;
import java.util.HashMap;
import java.util.HashSet;
import java.util.List;
import java.util.Map;
import java.util.Set;

/** The document once more, written as plainly and as unlike the class as can be: what ModelTest compares with. */
public final class Model {
    public static final int NONE = -1;

    // ---------------------------------------------------------------- the text

    record Token(String kind, String text, int place) { }

    record Step(String name, int good, boolean ends) { }

    record Road(int from, int to) { }

    record Sleeper(String name, int bed, int span, int other) { }

    private static final Set<String> WORDS = Set.of("step", "ends", "road", "sleeper", "does", "begins", "naps",
        "seed", "if", "then", "else", "at", "good", "night", "dreamt", "ways", "left", "mood");
    private static final Set<String> VARS = Set.of("at", "good", "night", "dreamt", "ways", "left", "mood");

    private List<Integer> tape = new ArrayList<>();
    private int faultPlace = NONE;
    private int fault;

    private List<Step> steps = new ArrayList<>();
    private List<Road> roads = new ArrayList<>();
    private List<Sleeper> sleepers = new ArrayList<>();
    private Map<Integer, List<Token>> laws = new HashMap<>();
    private int begins = -2;
    private int naps;
    private int seed;

    static final class Standing {
        int hour;
        int at = -2;
        int dreams = -2;
        int ends;
        int[] left = new int[6];
        int[] good = new int[6];
        int[] bed = new int[6];
        int[] anew = new int[6];
        boolean[] fell = new boolean[6];
        List<int[]> log = new ArrayList<>();
        List<Integer> quiet = new ArrayList<>();

        Standing copy() {
            Standing s = new Standing();
            s.hour = hour;
            s.at = at;
            s.dreams = dreams;
            s.ends = ends;
            s.left = left.clone();
            s.good = good.clone();
            s.bed = bed.clone();
            s.anew = anew.clone();
            s.fell = fell.clone();
            s.log = new ArrayList<>(log);
            s.quiet = new ArrayList<>(quiet);
            return s;
        }
    }

    private Standing s = new Standing();
    private List<Standing> undos = new ArrayList<>();
    private Standing[] slots = new Standing[3];
    private List<int[]> told = new ArrayList<>();

    public int feed(int a, int b, int c, int d, int e) {
        if (tape.size() + 20 > 2000) {
            return NONE;
        }
        for (int v : new int[] {a, b, c, d, e}) {
            tape.add(v >>> 24 & 255);
            tape.add(v >>> 16 & 255);
            tape.add(v >>> 8 & 255);
            tape.add(v & 255);
        }
        return tape.size();
    }

    public int back(int n) {
        if (n < 0 || n > tape.size()) {
            return NONE;
        }
        tape = new ArrayList<>(tape.subList(0, tape.size() - n));
        return tape.size();
    }

    public int place() {
        return faultPlace;
    }

    private static String run(String text, int from, String of) {
        int to = from;
        while (to < text.length() && of.indexOf(text.charAt(to)) >= 0) {
            to++;
        }
        return text.substring(from, to);
    }

    private static List<Token> tokens(String text) {
        List<Token> all = new ArrayList<>();
        int i = 0;
        while (i < text.length()) {
            char c = text.charAt(i);
            String letters = run(text, i, "abcdefghijklmnopqrstuvwxyz");
            String digits = run(text, i, "0123456789");
            if ("\t\n\r ".indexOf(c) >= 0) {
                i++;
            } else if (!letters.isEmpty()) {
                String kind = letters.length() > 8 ? "bad" : WORDS.contains(letters) ? letters : "NAME";
                all.add(new Token(VARS.contains(kind) ? "VAR" : kind, letters, i));
                i += letters.length();
            } else if (!digits.isEmpty()) {
                all.add(new Token(digits.length() > 4 ? "bad" : "INT", digits, i));
                i += digits.length();
            } else {
                all.add(new Token(";=+-*/<()".indexOf(c) >= 0 ? "" + c : "bad", "" + c, i));
                i++;
            }
        }
        all.add(new Token("end", "", text.length()));
        return all;
    }

    /** The grammar as a table: what a symbol becomes ahead of a token; null: it is a token itself. */
    private static String grown(String symbol, String token) {
        switch (symbol) {
            case "TEXT":
                return token.equals("end") ? "end" : "TELL TEXT";
            case "TELL":
                switch (token) {
                    case "step":
                        return "step NAME MINUS INT ENDS ;";
                    case "road":
                        return "road NAME NAME ;";
                    case "sleeper":
                        return "sleeper NAME INT INT INT ;";
                    case "does":
                        return "does NAME = IFS E ;";
                    case "begins":
                        return "begins NAME ;";
                    case "naps":
                        return "naps INT ;";
                    case "seed":
                        return "seed INT ;";
                    default:
                        return "never";
                }
            case "MINUS":
                return token.equals("-") ? "-" : "";
            case "ENDS":
                return token.equals("ends") ? "ends" : "";
            case "IFS":
                return token.equals("if") ? "if E < E then E else IFS" : "";
            case "E":
                return "PART MORE";
            case "MORE":
                return token.equals("+") || token.equals("-") ? token + " PART MORE" : "";
            case "PART":
                return "UNIT TIMES";
            case "TIMES":
                return token.equals("*") || token.equals("/") ? token + " UNIT TIMES" : "";
            case "UNIT":
                return token.equals("(") ? "( E )" : token.equals("VAR") ? "VAR" : "INT";
            default:
                return null;
        }
    }

    private static int syntaxFault(List<Token> tokens) {
        List<String> due = new ArrayList<>(List.of("TEXT"));
        for (int i = 0; i < tokens.size(); i++) {
            String kind = tokens.get(i).kind();
            while (true) {
                String symbol = due.remove(due.size() - 1);
                String grown = grown(symbol, kind);
                if (grown == null) {
                    if (!symbol.equals(kind)) {
                        return i;
                    }
                    break;
                }
                String[] parts = grown.isEmpty() ? new String[0] : grown.split(" ");
                for (int k = parts.length - 1; k >= 0; k--) {
                    due.add(parts[k]);
                }
            }
        }
        return tokens.size();
    }

    private static final Set<String> TELLS = Set.of("step", "road", "sleeper", "does", "begins", "naps", "seed");

    /** Looks at the tokens ahead of the first SYNTAX fault alone. */
    private static int roomFault(List<Token> tokens, int good) {
        Map<String, Integer> many = new HashMap<>();
        Map<String, String> named = new HashMap<>();
        Map<String, Integer> from = new HashMap<>();
        int ifs = 0;
        int deep = 0;
        for (int i = 0; i < good; i++) {
            Token t = tokens.get(i);
            if (t.kind().equals("end")) {
                break;
            }
            if (i == 400) {
                return i;
            }
            if (TELLS.contains(t.kind())) {
                int n = many.merge(t.kind(), 1, Integer::sum);
                int most = t.kind().equals("step") ? 10 : t.kind().equals("road") ? 20
                    : t.kind().equals("sleeper") ? 6 : 1000;
                if (n > most) {
                    return i;
                }
                ifs = 0;
                deep = 0;
            }
            if (t.kind().equals("if") && ++ifs > 4) {
                return i;
            }
            if (t.kind().equals("(") && ++deep > 6) {
                return i;
            }
            if (t.kind().equals(")")) {
                deep--;
            }
            String before = i == 0 ? "" : tokens.get(i - 1).kind();
            if (before.equals("step") || before.equals("sleeper")) {
                named.putIfAbsent(t.text(), before);
            }
            if (before.equals("road") && "step".equals(named.get(t.text()))
                && from.merge(t.text(), 1, Integer::sum) > 4) {
                return i;
            }
        }
        return tokens.size();
    }

    public int read() {
        StringBuilder text = new StringBuilder();
        for (int b : tape) {
            text.append((char) b);
        }
        tape = new ArrayList<>();
        List<Token> tokens = tokens(text.toString());
        int syntax = syntaxFault(tokens);
        int room = roomFault(tokens, syntax);
        fault = 0;
        faultPlace = NONE;
        if (syntax < tokens.size() || room < tokens.size()) {
            fault = syntax <= room ? 1 : 2;
            faultPlace = tokens.get(Math.min(syntax, room)).place();
            return fault;
        }
        Model other = new Model();
        other.take(tokens);
        fault = other.fault;
        faultPlace = other.faultPlace;
        if (fault == 0) {
            steps = other.steps;
            roads = other.roads;
            sleepers = other.sleepers;
            laws = other.laws;
            begins = steps.isEmpty() ? -2 : other.begins == -2 ? 0 : other.begins;
            naps = other.naps;
            seed = other.seed;
            s = new Standing();
            s.at = begins;
            for (int i = 0; i < sleepers.size(); i++) {
                s.bed[i] = sleepers.get(i).bed();
            }
            undos = new ArrayList<>();
            slots = new Standing[3];
            told = new ArrayList<>();
        }
        return fault;
    }

    private void blame(int which, Token t) {
        if (fault == 0) {
            fault = which;
            faultPlace = t.place();
        }
    }

    private int number(Token t, int least, int most) {
        int v = Integer.parseInt(t.text());
        if (v < least || v > most) {
            blame(5, t);
        }
        return v;
    }

    private int stepNamed(Token t) {
        for (int i = 0; i < steps.size(); i++) {
            if (steps.get(i).name().equals(t.text())) {
                return i;
            }
        }
        blame(4, t);
        return 0;
    }

    private int sleeperNamed(Token t) {
        for (int i = 0; i < sleepers.size(); i++) {
            if (sleepers.get(i).name().equals(t.text())) {
                return i;
            }
        }
        blame(4, t);
        return 0;
    }

    private void freshName(Token t) {
        for (Step step : steps) {
            if (step.name().equals(t.text())) {
                blame(3, t);
            }
        }
        for (Sleeper sleeper : sleepers) {
            if (sleeper.name().equals(t.text())) {
                blame(3, t);
            }
        }
    }

    private void take(List<Token> tokens) {
        int i = 0;
        while (!tokens.get(i).kind().equals("end") && fault == 0) {
            int end = i;
            while (!tokens.get(end).kind().equals(";")) {
                end++;
            }
            List<Token> tell = tokens.subList(i, end);
            Token second = tell.get(1);
            switch (tell.get(0).kind()) {
                case "step":
                    freshName(second);
                    boolean minus = tell.get(2).kind().equals("-");
                    int good = number(tell.get(minus ? 3 : 2), 0, 9);
                    steps.add(new Step(second.text(), minus ? -good : good,
                        tell.get(tell.size() - 1).kind().equals("ends")));
                    break;
                case "road":
                    int from = stepNamed(second);
                    roads.add(new Road(from, stepNamed(tell.get(2))));
                    break;
                case "sleeper":
                    freshName(second);
                    int bed = number(tell.get(2), 0, 23);
                    int span = number(tell.get(3), 1, 12);
                    sleepers.add(new Sleeper(second.text(), bed, span, number(tell.get(4), 0, 23)));
                    break;
                case "does":
                    laws.put(sleeperNamed(second), new ArrayList<>(tell.subList(3, tell.size())));
                    break;
                case "begins":
                    begins = stepNamed(second);
                    break;
                case "naps":
                    naps = number(second, 0, 100);
                    break;
                default:
                    seed = number(second, 0, 9999);
                    break;
            }
            i = end + 1;
        }
    }

    // ---------------------------------------------------------------- an hour

    private List<Integer> from(int step) {
        List<Integer> to = new ArrayList<>();
        for (Road road : roads) {
            if (road.from() == step) {
                to.add(road.to());
            }
        }
        return to;
    }

    private boolean isEnd(int step) {
        return steps.get(step).ends() || from(step).isEmpty();
    }

    private static final class ByZero extends RuntimeException {
        private static final long serialVersionUID = 1;
    }

    /** Splits at the last + or - outside of brackets, else at the last * or /. */
    private static int split(List<Token> e, String at) {
        int deep = 0;
        for (int i = e.size() - 1; i >= 0; i--) {
            String kind = e.get(i).kind();
            deep += kind.equals(")") ? 1 : kind.equals("(") ? -1 : 0;
            if (deep == 0 && kind.length() == 1 && at.contains(kind)) {
                return i;
            }
        }
        return -1;
    }

    private static int value(List<Token> e, Map<String, Integer> vars) {
        int i = split(e, "+-");
        if (i < 0) {
            i = split(e, "*/");
        }
        if (i >= 0) {
            int l = value(e.subList(0, i), vars);
            int r = value(e.subList(i + 1, e.size()), vars);
            switch (e.get(i).kind()) {
                case "+":
                    return l + r;
                case "-":
                    return l - r;
                case "*":
                    return l * r;
                default:
                    if (r == 0) {
                        throw new ByZero();
                    }
                    return (int) ((long) l / r);
            }
        }
        if (e.get(0).kind().equals("(")) {
            return value(e.subList(1, e.size() - 1), vars);
        }
        return e.get(0).kind().equals("INT") ? Integer.parseInt(e.get(0).text()) : vars.get(e.get(0).text());
    }

    private static int find(List<Token> law, String kind) {
        for (int i = 0; i < law.size(); i++) {
            if (law.get(i).kind().equals(kind)) {
                return i;
            }
        }
        return -1;
    }

    private static int law(List<Token> law, Map<String, Integer> vars) {
        if (law == null) {
            return 0;
        }
        try {
            List<Token> rest = law;
            while (rest.get(0).kind().equals("if")) {
                int less = find(rest, "<");
                int then = find(rest, "then");
                int or = find(rest, "else");
                if (value(rest.subList(1, less), vars) < value(rest.subList(less + 1, then), vars)) {
                    return value(rest.subList(then + 1, or), vars);
                }
                rest = rest.subList(or + 1, rest.size());
            }
            return value(rest, vars);
        } catch (ByZero e) {
            return 0;
        }
    }

    static int lot(int n, int seed, int which) {
        int h = seed;
        for (int it : new int[] {45, which}) {
            h = (h ^ it) * 1103515245 + 12345;
            h = h ^ (h >>> 15);
        }
        return (h >>> 1) % n;
    }

    private void dream(Standing t, int who, Map<Integer, List<Token>> by) {
        int step = t.at;
        t.good[who] += steps.get(step).good();
        t.log.add(new int[] {who, step});
        if (isEnd(step)) {
            t.ends++;
            t.at = begins;
            return;
        }
        int times = 0;
        for (int[] row : t.log) {
            times += row[0] == who && row[1] == step ? 1 : 0;
        }
        List<Integer> ways = from(step);
        Map<String, Integer> vars = Map.of("at", step, "good", steps.get(step).good(), "night", t.hour / 24,
            "dreamt", times, "ways", ways.size(), "left", t.left[who], "mood", t.good[who]);
        int told = law(by.get(who), vars);
        t.at = ways.get(told < 0 ? 0 : told % ways.size());
    }

    private void hour(Standing t, int itsSeed, Map<Integer, List<Token>> by) {
        for (int i = 0; i < sleepers.size(); i++) {
            if (t.left[i] == 0) {
                if (t.hour % 24 == t.bed[i]) {
                    t.left[i] = sleepers.get(i).span();
                    t.fell[i] = true;
                    t.anew[i]++;
                } else if (lot(100, itsSeed, 8 * t.hour + i) < naps) {
                    t.left[i] = 1;
                    t.fell[i] = true;
                    t.anew[i]++;
                }
            }
        }
        for (int i = 0; i < sleepers.size() && t.dreams == -2; i++) {
            if (t.fell[i] && t.left[i] > 0) {
                t.dreams = i;
            }
        }
        t.fell = new boolean[6];
        boolean quiet = true;
        for (int i = 0; i < 6; i++) {
            quiet &= t.left[i] == 0;
        }
        if (quiet) {
            t.quiet.add(t.hour);
        }
        if (t.dreams >= 0 && !steps.isEmpty()) {
            dream(t, t.dreams, by);
        } else {
            t.log.add(new int[] {t.dreams, -2});
        }
        for (int i = 0; i < 6; i++) {
            if (t.left[i] > 0) {
                t.left[i]--;
                if (t.left[i] == 0 && t.dreams == i) {
                    t.dreams = -2;
                }
            }
        }
        t.hour++;
    }

    private Standing later(Standing from, int n, int itsSeed, Map<Integer, List<Token>> by) {
        Standing t = from.copy();
        for (int i = 0; i < n && t.hour < 600; i++) {
            hour(t, itsSeed, by);
        }
        return t;
    }

    private Standing later(Standing from, int n) {
        return later(from, n, seed, laws);
    }

    private boolean isStep(int i) {
        return i >= 0 && i < steps.size();
    }

    private boolean isSleeper(int i) {
        return i >= 0 && i < sleepers.size();
    }

    private static int tells(Standing t, int what) {
        int asleep = 0;
        for (int i = 0; i < 6; i++) {
            asleep += t.left[i] > 0 ? 1 << i : 0;
        }
        int[] all = {t.at, t.dreams, t.hour % 24, t.hour / 24, t.hour, t.ends, asleep};
        return what >= 0 && what < all.length ? all[what] : NONE;
    }

    public int now(int what) {
        return tells(s, what);
    }

    public int sleeper(int sleeper, int what) {
        if (!isSleeper(sleeper)) {
            return -10000;
        }
        int dreamt = 0;
        int knows = 0;
        for (int[] row : s.log) {
            if (row[0] == sleeper && row[1] >= 0) {
                dreamt++;
                knows |= 1 << row[1];
            }
        }
        int[] all = {s.left[sleeper], s.good[sleeper], dreamt, s.bed[sleeper], knows, s.anew[sleeper]};
        return what >= 0 && what < all.length ? all[what] : -10000;
    }

    public int was(int hour, int what) {
        return hour < 0 || hour >= s.hour || what < 0 || what > 1 ? NONE : s.log.get(hour)[what];
    }

    private void keep() {
        undos.add(s.copy());
        if (undos.size() > 30) {
            undos.remove(0);
        }
    }

    public int hours(int n) {
        if (n < 0 || n > 600 || s.hour + n > 600) {
            return NONE;
        }
        if (n > 0) {
            keep();
            s = later(s, n);
        }
        return s.hour;
    }

    public boolean nap(int sleeper, int n) {
        if (!isSleeper(sleeper) || n < 1 || n > 12 || s.left[sleeper] > 0) {
            return false;
        }
        keep();
        s.left[sleeper] = n;
        s.fell[sleeper] = true;
        s.anew[sleeper]++;
        return true;
    }

    public boolean wake(int sleeper) {
        if (!isSleeper(sleeper) || s.left[sleeper] == 0) {
            return false;
        }
        keep();
        s.left[sleeper] = 0;
        s.dreams = s.dreams == sleeper ? -2 : s.dreams;
        return true;
    }

    public boolean bed(int sleeper, int hour) {
        if (!isSleeper(sleeper) || hour < 0 || hour > 23 || s.bed[sleeper] == hour) {
            return false;
        }
        keep();
        s.bed[sleeper] = hour;
        return true;
    }

    public boolean set(int step) {
        if (!isStep(step) || s.at == step) {
            return false;
        }
        keep();
        s.at = step;
        return true;
    }

    public boolean undo() {
        if (undos.isEmpty()) {
            return false;
        }
        s = undos.remove(undos.size() - 1);
        return true;
    }

    // ---------------------------------------------------------------- what would be

    public int then(int n, int what) {
        return n < 0 || n > 600 ? NONE : tells(later(s, n), what);
    }

    public int ends() {
        Standing t = s.copy();
        for (int i = 1; t.hour < 600; i++) {
            hour(t, seed, laws);
            if (t.ends > s.ends) {
                return i;
            }
        }
        return -2;
    }

    public int gains(int sleeper, int n) {
        return !isSleeper(sleeper) || n < 0 || n > 600 ? -10000 : later(s, n).good[sleeper] - s.good[sleeper];
    }

    private static void orders(int n, List<Integer> begun, List<List<Integer>> all) {
        if (begun.size() == n) {
            all.add(new ArrayList<>(begun));
            return;
        }
        for (int i = 0; i < n; i++) {
            if (!begun.contains(i)) {
                begun.add(i);
                orders(n, begun, all);
                begun.remove(begun.size() - 1);
            }
        }
    }

    private Standing line(List<Integer> order) {
        Standing t = s.copy();
        t.left = new int[6];
        for (int who : order) {
            for (int left = sleepers.get(who).span(); left > 0 && t.hour < 600; left--) {
                t.left[who] = left;
                if (steps.isEmpty()) {
                    t.log.add(new int[] {who, -2});
                } else {
                    dream(t, who, laws);
                }
                t.hour++;
            }
            t.left[who] = 0;
        }
        return t;
    }

    private List<List<Integer>> orders() {
        List<List<Integer>> all = new ArrayList<>();
        if (!sleepers.isEmpty()) {
            orders(sleepers.size(), new ArrayList<>(), all);
        }
        return all;
    }

    private int bestHours;

    private List<Integer> bestLine(int step) {
        List<Integer> best = null;
        bestHours = -2;
        for (List<Integer> order : orders()) {
            Standing t = line(order);
            for (int h = s.hour; h < t.hour; h++) {
                if (t.log.get(h)[1] == step) {
                    if (best == null || h - s.hour + 1 < bestHours) {
                        best = order;
                        bestHours = h - s.hour + 1;
                    }
                    break;
                }
            }
        }
        return best;
    }

    public int line(int step) {
        if (!isStep(step)) {
            return NONE;
        }
        bestLine(step);
        return bestHours;
    }

    public int lineAt(int step, int i) {
        if (!isStep(step) || i < 0) {
            return NONE;
        }
        List<Integer> best = bestLine(step);
        return best == null ? -2 : i < best.size() ? best.get(i) : NONE;
    }

    public int fair(int what) {
        if (what < 0 || what > 1 || sleepers.isEmpty()) {
            return -10000;
        }
        int most = Integer.MIN_VALUE;
        int first = -1;
        for (List<Integer> order : orders()) {
            Standing t = line(order);
            int least = Integer.MAX_VALUE;
            for (int i = 0; i < sleepers.size(); i++) {
                least = Math.min(least, t.good[i] - s.good[i]);
            }
            if (least > most) {
                most = least;
                first = order.get(0);
            }
        }
        return what == 0 ? most : first;
    }

    private int[] goodBy(int set, int n) {
        Standing t = s.copy();
        for (int i = 0; i < sleepers.size(); i++) {
            t.bed[i] = (set & 1 << i) != 0 ? sleepers.get(i).other() : t.bed[i];
        }
        return later(t, n).good;
    }

    public int rests(int n, int i) {
        if (n < 1 || n > 240 || i < -1) {
            return NONE;
        }
        List<int[]> good = new ArrayList<>();
        for (int set = 0; set < 1 << sleepers.size(); set++) {
            good.add(goodBy(set, n));
        }
        List<Integer> all = new ArrayList<>();
        for (int set = 0; set < good.size(); set++) {
            boolean rests = true;
            for (int who = 0; who < sleepers.size(); who++) {
                rests &= good.get(set ^ 1 << who)[who] <= good.get(set)[who];
            }
            if (rests) {
                all.add(set);
            }
        }
        return i == -1 ? all.size() : i < all.size() ? all.get(i) : NONE;
    }

    public int round(int what) {
        if (what < 0 || what > 1) {
            return NONE;
        }
        Map<List<Integer>, Integer> seen = new HashMap<>();
        Standing t = s.copy();
        for (int i = 0; i <= 300; i++) {
            List<Integer> key = new ArrayList<>(List.of(t.hour % 24, t.at, t.dreams));
            for (int left : t.left) {
                key.add(left);
            }
            if (seen.containsKey(key)) {
                return what == 0 ? i : seen.get(key);
            }
            seen.put(key, i);
            if (t.hour == 600) {
                return -2;
            }
            hour(t, seed, laws);
        }
        return -2;
    }

    private Set<Integer> reached(int step) {
        Set<Integer> all = new HashSet<>();
        List<Integer> open = new ArrayList<>(List.of(step));
        while (!open.isEmpty()) {
            int next = open.remove(open.size() - 1);
            if (all.add(next)) {
                open.addAll(from(next));
            }
        }
        return all;
    }

    private static int bits(Iterable<Integer> all) {
        int bits = 0;
        for (int i : all) {
            bits |= 1 << i;
        }
        return bits;
    }

    public int reach() {
        return steps.isEmpty() ? 0 : bits(reached(s.at));
    }

    /** The first by the numbers of the ROADS of all ways with so few ROADS. */
    private List<Integer> way(int from, int to, int roadsLeft) {
        if (from == to && roadsLeft == 0) {
            return new ArrayList<>(List.of(to));
        }
        if (roadsLeft > 0) {
            for (int next : from(from)) {
                List<Integer> rest = way(next, to, roadsLeft - 1);
                if (rest != null) {
                    rest.add(0, from);
                    return rest;
                }
            }
        }
        return null;
    }

    private List<Integer> way(int to) {
        for (int n = 0; n < 10; n++) {
            List<Integer> way = way(s.at, to, n);
            if (way != null) {
                return way;
            }
        }
        return null;
    }

    public int far(int step) {
        if (!isStep(step)) {
            return NONE;
        }
        List<Integer> way = reached(s.at).contains(step) ? way(step) : null;
        return way == null ? -2 : way.size() - 1;
    }

    public int farAt(int step, int i) {
        if (!isStep(step) || i < 0) {
            return NONE;
        }
        List<Integer> way = reached(s.at).contains(step) ? way(step) : null;
        return way == null ? -2 : i < way.size() ? way.get(i) : NONE;
    }

    public int trapped() {
        int bits = 0;
        for (int i = 0; i < steps.size(); i++) {
            boolean out = false;
            for (int to : reached(i)) {
                out |= isEnd(to);
            }
            bits |= out ? 0 : 1 << i;
        }
        return bits;
    }

    public int bestBed(int sleeper, int n, int what) {
        if (!isSleeper(sleeper) || n < 1 || n > 240 || what < 0 || what > 1) {
            return -10000;
        }
        int[] good = new int[24];
        for (int bed = 0; bed < 24; bed++) {
            Standing t = s.copy();
            t.bed[sleeper] = bed;
            good[bed] = later(t, n).good[sleeper] - s.good[sleeper];
        }
        return what == 0 ? firstOfMost(good) : good[firstOfMost(good)];
    }

    private static int firstOfMost(int[] values) {
        int best = 0;
        for (int i = 1; i < values.length; i++) {
            best = values[i] > values[best] ? i : best;
        }
        return best;
    }

    public int bestStart(int n, int what) {
        if (steps.isEmpty() || n < 1 || n > 240 || what < 0 || what > 1) {
            return -10000;
        }
        int[] good = new int[steps.size()];
        for (int step = 0; step < good.length; step++) {
            Standing t = s.copy();
            t.at = step;
            t = later(t, n);
            for (int i = 0; i < 6; i++) {
                good[step] += t.good[i] - s.good[i];
            }
        }
        return what == 0 ? firstOfMost(good) : good[firstOfMost(good)];
    }

    public int free(int what) {
        Standing t = s.copy();
        t.quiet = new ArrayList<>();
        t = later(t, 24);
        return what == 0 ? t.quiet.size() : what == 1 ? t.quiet.isEmpty() ? -2 : t.quiet.get(0) : NONE;
    }

    private List<int[]> dreamt() {
        List<int[]> all = new ArrayList<>();
        for (int[] row : s.log) {
            if (row[0] != -2) {
                all.add(row);
            }
        }
        return all;
    }

    public int handed(int sleeper, int other) {
        if (!isSleeper(sleeper) || !isSleeper(other) || sleeper == other) {
            return NONE;
        }
        List<int[]> all = dreamt();
        int n = 0;
        for (int i = 1; i < all.size(); i++) {
            n += all.get(i - 1)[0] == sleeper && all.get(i)[0] == other ? 1 : 0;
        }
        return n;
    }

    public int luckiest(int what) {
        if (what < 0 || what > 1) {
            return NONE;
        }
        if (sleepers.isEmpty()) {
            return -2;
        }
        int[] good = java.util.Arrays.copyOf(s.good, sleepers.size());
        int least = java.util.Arrays.stream(good).min().getAsInt();
        return what == 0 ? firstOfMost(good) : good[firstOfMost(good)] - least;
    }

    private final Map<List<Integer>, Integer> rows = new HashMap<>();

    private List<Integer> nexts(int step) {
        return isEnd(step) ? List.of(begins) : from(step);
    }

    private int bestRow(int step, int n) {
        if (n == 0) {
            return 0;
        }
        Integer known = rows.get(List.of(step, n));
        if (known != null) {
            return known;
        }
        int most = Integer.MIN_VALUE;
        for (int next : nexts(step)) {
            most = Math.max(most, steps.get(step).good() + bestRow(next, n - 1));
        }
        rows.put(List.of(step, n), most);
        return most;
    }

    public int best(int n, int what) {
        if (steps.isEmpty() || n < 1 || n > 60 || what < 0 || what > 1) {
            return -10000;
        }
        rows.clear();
        int most = bestRow(s.at, n);
        if (what == 0) {
            return most;
        }
        for (int next : nexts(s.at)) {
            if (steps.get(s.at).good() + bestRow(next, n - 1) == most) {
                return next;
            }
        }
        throw new IllegalStateException();
    }

    private boolean dreamtBy(int step, Map<Integer, List<Token>> by) {
        Standing t = later(s, 120, seed, by);
        for (int h = s.hour; h < t.hour; h++) {
            if (t.log.get(h)[1] == step) {
                return true;
            }
        }
        return false;
    }

    public int needed(int step) {
        if (!isStep(step)) {
            return NONE;
        }
        if (!dreamtBy(step, laws)) {
            return -2;
        }
        int bits = 0;
        for (int i = 0; i < sleepers.size(); i++) {
            Map<Integer, List<Token>> by = new HashMap<>(laws);
            by.remove(i);
            bits |= dreamtBy(step, by) ? 0 : 1 << i;
        }
        return bits;
    }

    public int mean(int seeds, int n) {
        if (seeds < 1 || seeds > 10 || n < 0 || n > 300) {
            return NONE;
        }
        int all = 0;
        for (int i = 0; i < seeds; i++) {
            all += later(s, n, seed + i, laws).ends - s.ends;
        }
        return all;
    }

    public int knows(int step) {
        if (!isStep(step)) {
            return NONE;
        }
        int bits = 0;
        for (int[] row : dreamt()) {
            bits |= row[1] == step ? 1 << row[0] : 0;
        }
        return bits;
    }

    public int when(int step, boolean last) {
        if (!isStep(step)) {
            return NONE;
        }
        List<Integer> hours = new ArrayList<>();
        for (int h = 0; h < s.log.size(); h++) {
            if (s.log.get(h)[1] == step) {
                hours.add(h);
            }
        }
        return hours.isEmpty() ? -2 : hours.get(last ? hours.size() - 1 : 0);
    }

    public int behind(int step, int other) {
        if (!isStep(step) || !isStep(other)) {
            return NONE;
        }
        List<int[]> all = dreamt();
        int n = 0;
        for (int i = 1; i < all.size(); i++) {
            n += all.get(i - 1)[1] == other && all.get(i)[1] == step ? 1 : 0;
        }
        return n;
    }

    public int longest(int sleeper) {
        if (sleeper != NONE && !isSleeper(sleeper)) {
            return NONE;
        }
        int most = 0;
        for (int from = 0; from < s.log.size(); from++) {
            int to = from;
            while (to < s.log.size() && (sleeper == NONE ? s.log.get(to)[0] >= 0 : s.log.get(to)[0] == sleeper)) {
                to++;
            }
            most = Math.max(most, to - from);
        }
        return most;
    }

    // ---------------------------------------------------------------- told, slots, count

    public int tell(int sleeper, int step, int road) {
        if (!isSleeper(sleeper) || !isStep(step) || road < 0 || road >= from(step).size() || told.size() == 20) {
            return NONE;
        }
        told.add(new int[] {sleeper, step, road});
        return told.size() - 1;
    }

    public int forget() {
        int n = told.size();
        told.clear();
        return n;
    }

    private List<Integer> fitting(int sleeper, int k) {
        List<Integer> all = new ArrayList<>();
        for (int a = 0; a <= 4; a++) {
            for (int b = 0; b <= 4; b++) {
                boolean fits = true;
                for (int[] t : told.subList(0, k)) {
                    fits &= t[0] != sleeper || (a * t[1] + b) % from(t[1]).size() == t[2];
                }
                if (fits) {
                    all.add(10 * a + b);
                }
            }
        }
        return all;
    }

    public int fits(int sleeper, int k, int i) {
        if (!isSleeper(sleeper) || k < 0 || k > told.size() || i < -1) {
            return NONE;
        }
        List<Integer> all = fitting(sleeper, k);
        return i == -1 ? all.size() : i < all.size() ? all.get(i) : NONE;
    }

    public int doubt(int sleeper, int k) {
        if (!isSleeper(sleeper) || k < 0 || k > told.size()) {
            return NONE;
        }
        int bits = 0;
        for (int step = 0; step < steps.size(); step++) {
            Set<Integer> gone = new HashSet<>();
            int ways = from(step).size();
            if (ways > 0) {
                for (int nature : fitting(sleeper, k)) {
                    gone.add((nature / 10 * step + nature % 10) % ways);
                }
            }
            bits |= gone.size() > 1 ? 1 << step : 0;
        }
        return bits;
    }

    public boolean hold(int slot) {
        if (slot < 0 || slot > 2) {
            return false;
        }
        slots[slot] = s.copy();
        return true;
    }

    public boolean restore(int slot) {
        if (slot < 0 || slot > 2 || slots[slot] == null) {
            return false;
        }
        s = slots[slot].copy();
        undos.clear();
        return true;
    }

    public int count(int what) {
        int held = 0;
        for (Standing slot : slots) {
            held += slot == null ? 0 : 1;
        }
        int[] all = {steps.size(), roads.size(), sleepers.size(), begins, naps, tape.size(), undos.size(),
            told.size(), held, dreamt().size()};
        return what >= 0 && what < all.length ? all[what] : NONE;
    }
}
