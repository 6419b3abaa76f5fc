import java.lang.reflect.Method;
import java.util.ArrayList;
import java.util.Comparator;
import java.util.List;
import java.util.Random;

/** Runs of calls drawn by a fixed seed: the class must answer what the Model answers. Arguments: runs, first seed. */
public final class ModelTest {
    private static final int CALLS = 150;
    private final Random random;
    private final NextSleeper due = new NextSleeper();
    private final Model model = new Model();
    private final List<String> story = new ArrayList<>();
    private static final List<Method> METHODS = methods();

    private ModelTest(long seed) {
        random = new Random(seed);
    }

    private static List<Method> methods() {
        List<Method> all = new ArrayList<>();
        for (Method method : NextSleeper.class.getDeclaredMethods()) {
            if (java.lang.reflect.Modifier.isPublic(method.getModifiers())) {
                all.add(method);
            }
        }
        all.sort(Comparator.comparing(Method::getName));
        return all;
    }

    public static void main(String[] args) throws Exception {
        int runs = args.length > 0 ? Integer.parseInt(args[0]) : 600;
        long first = args.length > 1 ? Long.parseLong(args[1]) : 1;
        int wrong = 0;
        for (long seed = first; seed < first + runs; seed++) {
            ModelTest test = new ModelTest(seed);
            if (!test.run()) {
                System.out.println("seed " + seed + ":");
                test.story.forEach(System.out::println);
                wrong++;
                if (wrong == 3) {
                    break;
                }
            }
        }
        System.out.println(wrong == 0 ? runs + " runs are as the model's" : wrong + " runs are not as the model's");
        if (wrong != 0) {
            System.exit(1);
        }
    }

    private boolean run() throws Exception {
        if (random.nextInt(3) == 0) {
            for (int i = 0; i < 60; i++) {
                if (!readBoth(TextMaker.faulty(random))) {
                    return false;
                }
            }
            return true;
        }
        if (!readBoth(TextMaker.faultless(random))) {
            return false;
        }
        for (int i = 0; i < CALLS; i++) {
            if (!callBoth()) {
                return false;
            }
            if (random.nextInt(60) == 0 && !readBoth(random.nextBoolean() ? TextMaker.faultless(random)
                : TextMaker.faulty(random))) {
                return false;
            }
        }
        return true;
    }

    private boolean readBoth(String text) throws Exception {
        story.add("text: " + text.replace('\n', ' '));
        Checks.tape(due, text);
        String padded = text + " ".repeat((20 - text.length() % 20) % 20);
        for (int i = 0; i < padded.length(); i += 20) {
            int[] five = Checks.five(padded, i);
            model.feed(five[0], five[1], five[2], five[3], five[4]);
        }
        model.back(padded.length() - text.length());
        return same(NextSleeper.class.getMethod("count", int.class), 5)
            && same(NextSleeper.class.getMethod("read"))
            && same(NextSleeper.class.getMethod("place"));
    }

    private boolean callBoth() throws Exception {
        Method method = METHODS.get(random.nextInt(METHODS.size()));
        if (random.nextInt(4) == 0) {
            method = NextSleeper.class.getMethod("hours", int.class);
        } else if (random.nextInt(6) == 0) {
            method = random.nextBoolean() ? NextSleeper.class.getMethod("nap", int.class, int.class)
                : NextSleeper.class.getMethod("tell", int.class, int.class, int.class);
        }
        if (method.getName().equals("feed") || method.getName().equals("read")) {
            return true;
        }
        Class<?>[] types = method.getParameterTypes();
        Object[] arguments = new Object[types.length];
        for (int i = 0; i < types.length; i++) {
            if (types[i] == boolean.class) {
                arguments[i] = random.nextBoolean();
            } else {
                arguments[i] = number(method.getName(), i);
            }
        }
        return same(method, arguments);
    }

    private int number(String name, int i) {
        switch (random.nextInt(40)) {
            case 0:
                return -1;
            case 1:
                return -2;
            case 2:
                return random.nextInt();
            case 3:
                return new int[] {10, 6, 24, 12, 13, 0, 600, 601, 240, 241, 300, 301, 60, 61}[random.nextInt(14)];
            default:
                break;
        }
        boolean many = i == 0 && List.of("then", "rests", "bestStart", "best").contains(name)
            || i == 1 && List.of("gains", "bestBed", "mean").contains(name);
        if (many) {
            return random.nextInt(random.nextBoolean() ? 62 : 301);
        }
        if (name.equals("hours")) {
            return random.nextInt(random.nextInt(8) == 0 ? 200 : 20);
        }
        if (name.equals("was") && i == 0) {
            return random.nextInt(120);
        }
        if (name.equals("bed") && i == 1) {
            return random.nextInt(24);
        }
        if (name.equals("rests")) {
            return random.nextInt(5) - 1;
        }
        if (name.equals("fits") && i == 2) {
            return random.nextInt(20) - 1;
        }
        return random.nextInt(new int[] {2, 4, 7, 11}[random.nextInt(4)]);
    }

    private boolean same(Method method, Object... arguments) throws Exception {
        Object want = Model.class.getMethod(method.getName(), method.getParameterTypes()).invoke(model, arguments);
        Object got = method.invoke(due, arguments);
        StringBuilder call = new StringBuilder(method.getName()).append('(');
        for (int i = 0; i < arguments.length; i++) {
            call.append(i == 0 ? "" : ", ").append(arguments[i]);
        }
        story.add(call + ") answered " + got + (want.equals(got) ? "" : ", the model " + want));
        return want.equals(got);
    }
}
