import java.lang.management.ManagementFactory;
import java.lang.reflect.Method;
import java.lang.reflect.Modifier;
import java.nio.charset.StandardCharsets;
import java.nio.file.Files;
import java.nio.file.Path;
import java.util.ArrayList;
import java.util.List;
import java.util.Map;
import java.util.Set;
import java.util.TreeMap;
import java.util.TreeSet;
import java.util.regex.Matcher;
import java.util.regex.Pattern;

/** What can be seen of the language's rules: the face, words that are left out, sizes, and what calls make. */
public final class RulesTest {
    private static final Checks C = new Checks();
    private static final Pattern METHOD = Pattern.compile(
        "\n( +)(?:public |private )(?:static )?(?:[\\w\\[\\]]+ )?(\\w+)\\(([^)]*)\\) \\{\n");

    public static void main(String[] args) throws Exception {
        String source = Files.readString(Path.of("src/main/java/NextSleeper.java"), StandardCharsets.ISO_8859_1);
        words(source);
        methods(source);
        depth(source);
        face();
        made();
        C.close("RulesTest");
    }

    private static void words(String source) {
        String code = source.replaceAll("(?s)/\\*.*?\\*/", "").replaceAll("//[^\n]*", "")
            .replaceAll("\"[^\"\n]*\"", "\"\"");
        for (String word : new String[] {"throw", "throws", "try", "catch", "synchronized", "assert", "import",
            "package", "protected", "volatile", "transient", "native", "double", "float", "Object", "hashCode",
            "toString", "System.out", "Thread", "Random", "currentTimeMillis", "nanoTime", "var", "MAX_VALUE",
            "MIN_VALUE"}) {
            C.due("how often it says " + word,
                Pattern.compile("\\b" + word.replace(".", "\\.") + "\\b").matcher(code).results().count(), 0);
        }
        C.due("lambdas", code.split("->", -1).length - 1, 0);
        C.due("method references", code.split("::", -1).length - 1, 0);
        C.due("lines with a static field that is not final",
            Pattern.compile("\\bstatic (?!final)[\\w\\[\\]]+ \\w+ *[=;]").matcher(code).results().count(), 0);
        long classes = Pattern.compile("\\bclass \\w+").matcher(code).results().count();
        C.due("twelve classes at most", classes <= 12, true);
        C.due("signs beyond 127", source.chars().filter(c -> c > 127).count(), 0);
    }

    private static void methods(String source) {
        Set<String> open = new TreeSet<>();
        List<String> hidden = new ArrayList<>();
        Matcher m = METHOD.matcher(source);
        int found = 0;
        while (m.find()) {
            found++;
            boolean isOpen = m.group().contains("public ");
            (isOpen ? open : hidden).add(m.group(2));
            int parameters = m.group(3).isEmpty() ? 0 : m.group(3).split(",").length;
            C.due("seven parameters at most: " + m.group(2), parameters <= 7, true);
            int end = source.indexOf("\n" + m.group(1) + "}", m.end());
            long lines = source.substring(m.end(), end).lines().count();
            C.due("sixty lines at most: " + m.group(2) + " has " + lines, lines <= 60, true);
        }
        C.due("methods are found", found > 100, true);
        hidden.removeIf(name -> !open.contains(name));
        C.due("private methods with a public one's name: " + hidden, hidden.size(), 0);
    }

    /** How deep calls go from each public method; one that calls itself, by whatever way, counts once. */
    private static void depth(String source) {
        String code = source.replaceAll("(?s)/\\*.*?\\*/", "").replaceAll("//[^\n]*", "");
        Map<String, String> bodies = new TreeMap<>();
        Matcher m = Pattern.compile("class (\\w+) \\{|" + METHOD.pattern()).matcher(code);
        String owner = "";
        while (m.find()) {
            owner = m.group(1) != null ? m.group(1) : owner;
            if (m.group(1) == null) {
                bodies.put(owner + "." + m.group(3), code.substring(m.end(), code.indexOf("\n" + m.group(2) + "}", m.end())));
            }
        }
        C.due("methods are found", bodies.size() > 100, true);
        for (String name : bodies.keySet()) {
            if (name.startsWith("NextSleeper.")) {
                int deep = depth(bodies, name, new TreeSet<>());
                C.due("eight deep at most: " + name + " goes " + deep, deep <= 8, true);
            }
        }
    }

    private static int depth(Map<String, String> bodies, String name, Set<String> open) {
        if (!open.add(name)) {
            return 0;
        }
        int most = 0;
        Matcher m = Pattern.compile("(\\w+\\.)?(\\w+)\\(").matcher(bodies.get(name));
        while (m.find()) {
            for (String other : bodies.keySet()) {
                boolean meant = m.group(1) == null ? other.equals(name.replaceFirst("\\..*", ".") + m.group(2))
                    : other.endsWith("." + m.group(2));
                most = meant ? Math.max(most, depth(bodies, other, open)) : most;
            }
        }
        open.remove(name);
        return most + 1;
    }

    private static void face() throws Exception {
        String[] due = {"back(int)int", "bed(int,int)boolean", "behind(int,int)int", "best(int,int)int",
            "bestBed(int,int,int)int", "bestStart(int,int)int", "count(int)int", "doubt(int,int)int", "ends()int",
            "fair(int)int", "far(int)int", "farAt(int,int)int", "feed(int,int,int,int,int)int", "fits(int,int,int)int",
            "forget()int", "free(int)int", "gains(int,int)int", "handed(int,int)int", "hold(int)boolean",
            "hours(int)int", "knows(int)int", "line(int)int", "lineAt(int,int)int", "longest(int)int",
            "luckiest(int)int", "mean(int,int)int", "nap(int,int)boolean", "needed(int)int", "now(int)int", "place()int",
            "reach()int", "read()int", "restore(int)boolean", "rests(int,int)int", "round(int)int", "set(int)boolean",
            "sleeper(int,int)int", "tell(int,int,int)int", "then(int,int)int", "trapped()int", "undo()boolean",
            "wake(int)boolean", "was(int,int)int", "when(int,boolean)int"};
        Set<String> got = new TreeSet<>();
        for (Method method : NextSleeper.class.getDeclaredMethods()) {
            if (Modifier.isPrivate(method.getModifiers())) {
                continue;
            }
            StringBuilder said = new StringBuilder(method.getName()).append('(');
            for (Class<?> type : method.getParameterTypes()) {
                said.append(said.charAt(said.length() - 1) == '(' ? "" : ",").append(type);
            }
            got.add(said.append(')').append(method.getReturnType()).toString());
            C.due(method.getName() + " is public and of the object", method.getModifiers(), Modifier.PUBLIC);
        }
        C.due("the face: " + got, got.equals(new TreeSet<>(List.of(due))), true);
        C.due("the class is public and final", NextSleeper.class.getModifiers(), Modifier.PUBLIC | Modifier.FINAL);
        C.due("constructors", NextSleeper.class.getDeclaredConstructors().length, 1);
        C.due("public fields", NextSleeper.class.getFields().length, 1);
        C.due("NONE", NextSleeper.class.getField("NONE").getModifiers(),
            Modifier.PUBLIC | Modifier.STATIC | Modifier.FINAL);
    }

    private static void someCalls(NextSleeper x) {
        x.read();
        for (int i = 0; i < 4; i++) {
            x.hours(9);
            x.nap(i, 2);
            x.hold(i);
            x.set(i);
            x.undo();
            x.tell(i, i, i);
            x.then(99, i);
            x.line(i);
            x.lineAt(i, i);
            x.fair(i);
            x.rests(24, i);
            x.round(i);
            x.far(i);
            x.farAt(i, i);
            x.bestBed(i, 24, 0);
            x.bestStart(24, i);
            x.free(i);
            x.best(30, i);
            x.needed(i);
            x.mean(i, 99);
            x.longest(i);
            x.fits(i, i, i);
            x.doubt(i, i);
            x.count(i);
        }
        x.restore(0);
    }

    /** All objects are made with the object itself, so that 512 calls make no more than it has. */
    private static void made() {
        com.sun.management.ThreadMXBean threads = (com.sun.management.ThreadMXBean) ManagementFactory.getThreadMXBean();
        NextSleeper x = new NextSleeper();
        Checks.tape(x, HourTest.HOUSE);
        someCalls(x);
        Checks.tape(x, HourTest.HOUSE + "naps 30;");
        long before = threads.getCurrentThreadAllocatedBytes();
        someCalls(x);
        long calls = threads.getCurrentThreadAllocatedBytes() - before;
        C.due("bytes that calls take: " + calls, calls < 500, true);
        before = threads.getCurrentThreadAllocatedBytes();
        new NextSleeper();
        long made = threads.getCurrentThreadAllocatedBytes() - before;
        C.due("bytes that an object takes: " + made, made < 50000, true);
    }
}
