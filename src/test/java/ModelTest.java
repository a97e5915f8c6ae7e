import java.lang.reflect.InvocationTargetException;
import java.lang.reflect.Method;
import java.lang.reflect.Modifier;
import java.util.Arrays;
import java.util.HashMap;
import java.util.Map;
import java.util.Random;

/** Runs of calls by fixed seeds, on the program and on the model beside it: every answer is the same. */
public final class ModelTest {
    private static final int CALLS = 512;
    private static final int RUNS = 400;
    private static final int TOLD = 20;
    private static final int[] ODD = {Integer.MIN_VALUE, -1001, -1000, -2, -1, 9, 64, 65, 201, 512, 1000, 1001,
        Integer.MAX_VALUE};

    private static final String[] NAMES = {"changes", "insert", "delete", "change", "value", "where", "order", "ask",
        "answer", "last", "cost", "index", "shapes", "shape", "period", "budget", "choose", "costOf", "build", "work",
        "work", "drop"};
    private static final Map<String, Method> PROGRAM = methods(SelfArranger.class);
    private static final Map<String, Method> MODEL = methods(Model.class);

    private final Random random;
    private final SelfArranger program;
    private final Model model;
    private final int span;
    private final int oddness;
    private final int[] mix = new int[22];

    private ModelTest(int seed) {
        random = new Random(seed);
        int frames = random.nextInt(22) - 2;
        program = new SelfArranger(frames);
        model = new Model(frames);
        span = 1 + random.nextInt(random.nextBoolean() ? 5 : 40);
        oddness = 5 + random.nextInt(60);
        for (int k = 0; k < mix.length; k++) {
            mix[k] = 1 + random.nextInt(8);
        }
        mix[1] += random.nextInt(60);
        mix[5] += random.nextInt(30);
        mix[7] += random.nextInt(30);
        mix[9] += random.nextInt(20);
    }

    public static void main(String[] args) {
        int wrong = 0;
        for (int seed = 0; seed < RUNS; seed++) {
            String fault = new ModelTest(seed).run();
            if (fault != null) {
                wrong++;
                if (wrong <= TOLD) {
                    System.out.println("seed " + seed + ": " + fault);
                }
            }
        }
        System.out.println(wrong == 0 ? "all answers are as due" : wrong + " runs are not as due");
        System.exit(wrong == 0 ? 0 : 1);
    }

    /** What was wrong first, or null. */
    private String run() {
        for (int call = 1; call <= CALLS; call++) {
            int what = pick();
            Object[] a = Arrays.stream(arguments(what)).boxed().toArray();
            String got = told(PROGRAM, program, NAMES[what], a);
            String due = told(MODEL, model, NAMES[what], a);
            if (!got.equals(due)) {
                return "call " + call + ", " + NAMES[what] + Arrays.toString(a) + " answered " + got
                        + ", due is " + due;
            }
        }
        return null;
    }

    private int pick() {
        int sum = 0;
        for (int weight : mix) {
            sum += weight;
        }
        int at = random.nextInt(sum);
        int what = 0;
        while (at >= mix[what]) {
            at -= mix[what];
            what++;
        }
        return what;
    }

    private int[] arguments(int what) {
        int[] a;
        switch (what) {
            case 1:
                a = new int[] {v(), v(), v()};
                break;
            case 2:
                a = new int[] {random.nextInt(66) - 1};
                break;
            case 3:
                a = new int[] {random.nextInt(66) - 1, random.nextInt(3), v()};
                break;
            case 4:
                a = new int[] {random.nextInt(66) - 1, random.nextInt(3)};
                break;
            case 5:
                a = new int[] {random.nextInt(3), random.nextInt(3), v(), v()};
                break;
            case 6:
                a = new int[] {random.nextInt(4) - 1, random.nextInt(65)};
                break;
            case 8:
                a = new int[] {random.nextInt(10) - 1};
                break;
            case 9:
                a = new int[] {random.nextInt(4)};
                break;
            case 10:
                a = new int[] {random.nextInt(10) - 1};
                break;
            case 11:
                a = new int[] {random.nextInt(9), random.nextInt(4)};
                break;
            case 13:
                a = new int[] {random.nextInt(9), random.nextInt(3)};
                break;
            case 15:
                a = new int[] {random.nextInt(random.nextBoolean() ? 201 : 40)};
                break;
            case 17:
                a = new int[] {random.nextInt(512)};
                break;
            case 18:
            case 21:
                a = new int[] {random.nextInt(9)};
                break;
            case 19:
                a = new int[] {1 + random.nextInt(3)};
                break;
            case 20:
                a = new int[] {1 + random.nextInt(64)};
                break;
            default:
                a = new int[0];
        }
        if (a.length > 0 && random.nextInt(oddness) == 0) {
            a[random.nextInt(a.length)] = ODD[random.nextInt(ODD.length)];
        }
        return a;
    }

    private int v() {
        return random.nextInt(span) - span / 3;
    }

    private static Map<String, Method> methods(Class<?> type) {
        Map<String, Method> methods = new HashMap<>();
        for (Method method : type.getDeclaredMethods()) {
            if (!Modifier.isPrivate(method.getModifiers())) {
                methods.put(method.getName(), method);
            }
        }
        return methods;
    }

    private static String told(Map<String, Method> methods, Object x, String name, Object[] a) {
        try {
            return String.valueOf(methods.get(name).invoke(x, a));
        } catch (InvocationTargetException e) {
            return "throws." + e.getCause().getClass().getSimpleName();
        } catch (IllegalAccessException e) {
            throw new AssertionError(e);
        }
    }
}
