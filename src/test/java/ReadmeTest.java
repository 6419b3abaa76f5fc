import java.lang.reflect.Method;
import java.lang.reflect.Modifier;
import java.nio.charset.StandardCharsets;
import java.nio.file.Files;
import java.nio.file.Path;
import java.util.regex.Matcher;
import java.util.regex.Pattern;

/** README.md: its text is read, its calls answer what it says, its functions are those of the tests. */
public final class ReadmeTest {
    private static final Checks C = new Checks();
    private static final Pattern CALL = Pattern.compile("x\\.(\\w+)\\(([^)]*)\\); +// ([-\\w]+)");

    private ReadmeTest() { }

    public static void main(String[] args) throws Exception {
        String page = Files.readString(Path.of("README.md"), StandardCharsets.UTF_8);
        calls(page);
        functions(page);
        names(page);
        C.close("ReadmeTest");
    }

    private static void calls(String page) throws Exception {
        NextSleeper x = new NextSleeper();
        Checks.tape(x, between(page, "```text\n", "```"));
        Matcher m = CALL.matcher(page);
        int found = 0;
        while (m.find()) {
            found++;
            C.due(m.group(), number(answer(x, m.group(1), m.group(2))), number(m.group(3)));
        }
        C.due("calls of the page are found", found > 8, true);
    }

    private static String answer(NextSleeper x, String name, String given) throws Exception {
        String[] parts = given.isEmpty() ? new String[0] : given.split(", ");
        for (Method method : NextSleeper.class.getMethods()) {
            if (method.getName().equals(name) && method.getParameterCount() == parts.length) {
                Object[] values = new Object[parts.length];
                for (int i = 0; i < parts.length; i++) {
                    boolean isInt = method.getParameterTypes()[i] == int.class;
                    values[i] = isInt ? (Object) Integer.valueOf(parts[i]) : (Object) Boolean.valueOf(parts[i]);
                }
                return "" + method.invoke(x, values);
            }
        }
        return "no such call";
    }

    private static long number(String said) {
        return said.equals("true") ? 1 : said.equals("false") ? 0 : Long.parseLong(said);
    }

    private static void functions(String page) throws Exception {
        String checks = Files.readString(Path.of("src/test/java/Checks.java"), StandardCharsets.UTF_8);
        String shown = plain("static void" + between(page, "static void", "```"));
        C.due("the functions of the page are those of Checks", plain(checks).contains(shown), true);
    }

    private static void names(String page) {
        for (Method method : NextSleeper.class.getDeclaredMethods()) {
            if (Modifier.isPublic(method.getModifiers())) {
                C.due("the page names " + method.getName(), page.contains("`" + method.getName() + "`"), true);
            }
        }
    }

    private static String between(String all, String from, String to) {
        int start = all.indexOf(from);
        int end = start < 0 ? -1 : all.indexOf(to, start + from.length());
        return end < 0 ? "" : all.substring(start + from.length(), end);
    }

    private static String plain(String words) {
        return words.replaceAll("\\s+", " ").trim();
    }
}
