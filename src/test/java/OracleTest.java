import java.lang.reflect.Method;
import java.util.Arrays;
import java.util.Random;

/** Calls by chance on many courts: each answer, and each trouble behind it, is held against the oracle's. */
public final class OracleTest {
    private static final int SMALL_RUNS = 1500;
    private static final int LARGE_RUNS = 100;
    /** An object is used for 512 calls; a new court needs up to 60 of them, twice with trouble(). */
    private static final int CALLS = 390;

    private final Random random;
    private final Texts texts;
    private final StringBuilder told = new StringBuilder();
    private int wrong;
    private long looked;
    private int made;
    private int nodes;

    private OracleTest(long seed) {
        random = new Random(seed);
        texts = new Texts(random);
    }

    public static void main(String[] args) {
        int wrong = 0;
        long looked = 0;
        for (int run = 0; run < SMALL_RUNS + LARGE_RUNS && wrong < 20; run++) {
            OracleTest test = new OracleTest(run);
            test.run(run < SMALL_RUNS);
            wrong += test.wrong;
            looked += test.looked;
        }
        System.out.println("OracleTest: " + looked + " answers, " + wrong + " of them wrong");
        if (wrong != 0) {
            System.exit(1);
        }
    }

    private void run(boolean small) {
        nodes = small ? 12 : 19;
        Side class1 = new Side(new KingHears());
        Side oracle = new Side(new Oracle());
        Method[] calls = Side.calls();
        for (int i = 0; made < CALLS && wrong == 0; i++) {
            if (i == 20 || i > 20 && random.nextInt(150) == 0) {
                String text = small ? texts.court(6, 5) : texts.court(10, 8);
                giveCourt(class1, oracle, random.nextInt(10) == 0 ? texts.spoiled(text) : text);
            }
            Method call = calls[random.nextInt(calls.length)];
            if (random.nextInt(4) == 0) {
                call = Arrays.stream(calls).filter(c -> isAct(c.getName())).skip(random.nextInt(5)).findFirst().get();
            }
            boolean slow = !small && isSlow(call.getName()) && random.nextInt(12) > 0;
            if (!slow) {
                compare(class1, oracle, call, argumentsFor(call));
            }
        }
    }

    private static boolean isAct(String name) {
        return name.equals("say") || name.equals("front") || name.equals("undo") || name.equals("image")
            || name.equals("back");
    }

    private static boolean isSlow(String name) {
        return name.equals("proof") || name.equals("disproof") || name.equals("sure") || name.equals("pivot");
    }

    private void giveCourt(Side class1, Side oracle, String text) {
        if (text.length() > 880) {
            return;
        }
        told.append("  text ").append(text).append('\n');
        Method feed = method("feed");
        Method court = method("court");
        compare(class1, oracle, court, 0);
        for (int at = 0; at < text.length(); at += 20) {
            int[] five = Due.fiveNumbers(text, at);
            compare(class1, oracle, feed, five[0], five[1], five[2], five[3], five[4]);
        }
        compare(class1, oracle, court, text.length());
        compare(class1, oracle, method("fault"));
        compare(class1, oracle, method("where"));
    }

    private static Method method(String name) {
        return Arrays.stream(Side.calls()).filter(c -> c.getName().equals(name)).findFirst().get();
    }

    private void compare(Side class1, Side oracle, Method call, Object... arguments) {
        String got = class1.answer(call, arguments);
        String want = oracle.answer(call, arguments);
        told.append("  ").append(call.getName()).append(Arrays.toString(arguments)).append(" = ").append(got).append('\n');
        looked++;
        made++;
        if (!got.equals(want)) {
            wrong++;
            System.out.println(told + "due is " + want);
        }
        if (random.nextInt(3) == 0 && !call.getName().equals("trouble") && wrong == 0) {
            compare(class1, oracle, method("trouble"));
        }
    }

    private Object[] argumentsFor(Method call) {
        Class<?>[] types = call.getParameterTypes();
        Object[] arguments = new Object[types.length];
        for (int i = 0; i < types.length; i++) {
            arguments[i] = types[i] == boolean.class ? (Object) random.nextBoolean() : (Object) number(call.getName(), i);
        }
        return arguments;
    }

    private static final int[] EDGES = {Integer.MIN_VALUE, -2, -1, 0, 1, 2, 3, 4, 5, 8, 9, 10, 18, 31, 32, 59, 60, 61,
        98, 99, 100, 101, 65535, 65536, 65537, Integer.MAX_VALUE};

    private int number(String call, int i) {
        if (random.nextInt(12) == 0) {
            return EDGES[random.nextInt(EDGES.length)];
        }
        return switch (call) {
            case "feed" -> random.nextInt();
            case "court" -> random.nextInt(60) - 2;
            case "part", "front" -> i == 0 ? random.nextInt(nodes) : random.nextInt(5);
            case "node" -> i == 0 ? random.nextInt(nodes) : random.nextInt(6);
            case "say" -> i == 0 ? random.nextInt(nodes) : random.nextInt(102) - 1;
            case "hearsIn", "handed" -> random.nextInt(101);
            case "asks", "askBreaths", "odds", "proof", "disproof" -> random.nextInt(102);
            case "drawn", "drawnLeast" -> i == 0 ? random.nextInt(65540) : random.nextInt(20);
            case "night", "speaks", "rests", "rest", "size" -> random.nextInt(11);
            case "lineAt", "fitAt", "back", "led" -> random.nextInt(5);
            case "heardAt", "cutAt" -> random.nextInt(random.nextInt(4) == 0 ? 200 : 12);
            default -> random.nextInt(nodes);
        };
    }
}
