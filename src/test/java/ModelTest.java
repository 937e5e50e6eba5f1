import java.lang.reflect.InvocationTargetException;
import java.lang.reflect.Method;
import java.lang.reflect.Modifier;
import java.util.ArrayList;
import java.util.Comparator;
import java.util.List;
import java.util.Random;

/** Long runs of chosen calls, each with the answer that the model gives. The seeds are fixed. */
final class ModelTest {
    private static final int RUNS = 400;
    private static final int CALLS = 512;
    private static final String SIGNS = "bwuhr;+,0123456789x";
    private static final int[] EXTREMES = {Integer.MIN_VALUE, -10000, -2, -1, 10000000, Integer.MAX_VALUE};

    private final List<Method> methods = new ArrayList<>();
    private final Random random;
    private final GaugeBlocks blocks = new GaugeBlocks();
    private final Model model = new Model();
    private final StringBuilder told = new StringBuilder();
    private final int boldness;
    private String toType = "";

    private ModelTest(int seed) {
        random = new Random(seed);
        boldness = random.nextInt(3);
        for (Method method : GaugeBlocks.class.getDeclaredMethods()) {
            if (Modifier.isPublic(method.getModifiers())) {
                methods.add(method);
            }
        }
        methods.sort(Comparator.comparing(Method::getName));
    }

    public static void main(String[] args) throws ReflectiveOperationException {
        for (int seed = 0; seed < RUNS && Checks.wrong() == 0; seed++) {
            new ModelTest(seed).run();
        }
        Checks.end("ModelTest");
    }

    private void run() throws ReflectiveOperationException {
        for (int i = 0; i < CALLS && Checks.wrong() == 0; i++) {
            Method method = nextMethod();
            int[] values = argumentsFor(method);
            compare(method, values);
            if (i % 16 == 0) {
                compareEverything();
            }
        }
    }

    private void compare(Method method, int... values) throws ReflectiveOperationException {
        Object[] arguments = new Object[values.length];
        told.append(method.getName()).append('(');
        for (int i = 0; i < values.length; i++) {
            arguments[i] = values[i];
            told.append(i == 0 ? "" : ", ").append(values[i]);
        }
        told.append(")");
        Method due = Model.class.getDeclaredMethod(method.getName(), method.getParameterTypes());
        String got = answer(method, blocks, arguments);
        String want = answer(due, model, arguments);
        told.append(" ").append(got).append("\n");
        Checks.dueTrue(got.equals(want) ? "" : told + "due is " + want, got.equals(want));
    }

    private static String answer(Method method, Object object, Object[] arguments) throws ReflectiveOperationException {
        try {
            return String.valueOf(method.invoke(object, arguments));
        } catch (InvocationTargetException thrown) {
            Throwable cause = thrown.getCause();
            boolean isByMachine = object instanceof GaugeBlocks && !Checks.isThrownByTheClass(cause);
            return isByMachine ? "the machine threw " + cause : "throws." + cause.getClass().getSimpleName();
        }
    }

    private void compareEverything() throws ReflectiveOperationException {
        told.setLength(told.length() > 100000 ? 0 : told.length());
        int length = told.length();
        for (Method method : methods) {
            int[][] all = allArgumentsOf(method.getName());
            for (int first = 0; first < all[0][0]; first++) {
                for (int second = 0; second < all[0][1]; second++) {
                    compare(method, method.getParameterCount() == 2 ? new int[] {first, second}
                        : method.getParameterCount() == 1 ? new int[] {first} : new int[0]);
                    told.setLength(length);
                }
            }
        }
    }

    private static int[][] allArgumentsOf(String name) {
        switch (name) {
            case "count": return new int[][] {{10, 1}};
            case "blockOf": return new int[][] {{20, 9}};
            case "stackOf": return new int[][] {{3, 7}};
            case "setting": return new int[][] {{4, 1}};
            case "refusal": return new int[][] {{3, 20}};
            case "ranked": return new int[][] {{3, 20}};
            case "lengths": return new int[][] {{20, 1}};
            case "coolIn": return new int[][] {{20, 1}};
            case "firstError": return new int[][] {{1, 1}};
            case "meanError": return new int[][] {{1, 1}};
            default: return new int[][] {{0, 0}};
        }
    }

    private Method nextMethod() {
        if (!toType.isEmpty() && random.nextInt(40) != 0) {
            return named("append");
        }
        String[] often = {"block", "block", "wring", "wring", "wring", "takeOff", "hold", "rest", "undo", "make"};
        int choice = random.nextInt(30);
        if (choice < often.length) {
            return named(often[choice]);
        }
        if (choice == often.length && boldness > 0) {
            toType = orders();
            return named("clearBuffer");
        }
        if (choice == often.length + 1) {
            return named("execute");
        }
        return methods.get(random.nextInt(methods.size()));
    }

    private Method named(String name) {
        for (Method method : methods) {
            if (method.getName().equals(name)) {
                return method;
            }
        }
        throw new IllegalStateException(name);
    }

    private String orders() {
        StringBuilder out = new StringBuilder();
        int many = 1 + random.nextInt(10);
        for (int i = 0; i < many; i++) {
            String[] orders = {
                "b" + nominal(), "w" + random.nextInt(3) + "+" + random.nextInt(20), "u" + random.nextInt(3),
                "w" + random.nextInt(3) + "+" + number(model.count(0)),
                "h" + number(model.count(0)) + "," + (1 + random.nextInt(60)),
                "r" + (1 + random.nextInt(60)),
            };
            out.append(i == 0 ? "" : ";").append(orders[random.nextInt(orders.length)]);
        }
        if (random.nextInt(4) == 0) {
            char sign = SIGNS.charAt(random.nextInt(SIGNS.length()));
            out.setCharAt(random.nextInt(out.length()), sign);
        }
        return out.substring(0, Math.min(60, out.length()));
    }

    private int[] argumentsFor(Method method) {
        int many = model.count(0);
        String name = method.getName();
        if (name.equals("append")) {
            return new int[] {nextSign()};
        }
        if (random.nextInt(40) == 0) {
            return extremes(method.getParameterCount());
        }
        switch (name) {
            case "block": return new int[] {nominal(), near(random.nextInt(3) == 0 ? 900 : 300, true)};
            case "discard": case "calibrate": case "coolIn": return new int[] {number(many)};
            case "hold": return new int[] {number(many), near(60, false)};
            case "rest": return new int[] {near(boldness == 0 ? 60 : 5, false)};
            case "set": return setting();
            case "wring": case "refusal": return new int[] {number(3), number(many)};
            case "takeOff": return new int[] {number(3)};
            case "make": return new int[] {number(3), length()};
            case "keep": case "goBack": return new int[] {number(2)};
            case "blockOf": return new int[] {number(many), number(9)};
            case "stackOf": return new int[] {number(3), number(7)};
            case "ranked": return new int[] {number(3), number(many)};
            case "lengths": return new int[] {number(many)};
            case "count": return new int[] {number(10)};
            case "setting": return new int[] {number(4)};
            case "fewest": return new int[] {length(), number(2)};
            case "oldWay": return new int[] {length(), number(3)};
            case "nearest": return new int[] {length()};
            case "lengthIn": return new int[] {number(3), near(random.nextBoolean() ? 600 : 10, false)};
            default: return new int[0];
        }
    }

    private int[] extremes(int many) {
        int[] values = new int[many];
        for (int i = 0; i < many; i++) {
            values[i] = random.nextInt(3) == 0 ? random.nextInt(3) : EXTREMES[random.nextInt(EXTREMES.length)];
        }
        return values;
    }

    private int nextSign() {
        if (toType.isEmpty()) {
            return random.nextInt(10) == 0 ? 30 + random.nextInt(100) : SIGNS.charAt(random.nextInt(SIGNS.length()));
        }
        int sign = toType.charAt(0);
        toType = toType.substring(1);
        return sign;
    }

    /** A number from 0 to many - 1, now and then one beyond. */
    private int number(int many) {
        return random.nextInt(25) == 0 ? random.nextInt(2) * (many + 1) - 1 : random.nextInt(Math.max(1, many));
    }

    private int near(int greatest, boolean isSigned) {
        int value = random.nextInt(6) == 0 ? greatest + random.nextInt(3) - 1 : random.nextInt(greatest + 1);
        return isSigned && random.nextBoolean() ? -value : value;
    }

    private int[] setting() {
        int setting = number(4);
        int[] greatest = {60, 1000, 20, 200};
        return new int[] {setting, near(setting >= 0 && setting < 4 ? greatest[setting] : 10, random.nextInt(9) == 0)};
    }

    /** Few different lengths, so that sums meet often. */
    private int nominal() {
        switch (random.nextInt(8)) {
            case 0: return 499 + random.nextInt(3);
            case 1: return 99999 + random.nextInt(3);
            case 2: return 1000 + random.nextInt(10);
            case 3: return 1000 + 10 * random.nextInt(50);
            case 4: return 1000 * (1 + random.nextInt(30));
            default: return 500 * (1 + random.nextInt(8));
        }
    }

    /** Mostly the sum of some blocks. */
    private int length() {
        int many = model.count(0);
        if (many == 0 || random.nextInt(6) == 0) {
            int[] edges = {499, 500, 501, 599999, 600000, 600001, random.nextInt(600000), random.nextInt(10000)};
            return edges[random.nextInt(edges.length)];
        }
        int sum = 0;
        int some = 1 + random.nextInt(7);
        for (int i = 0; i < some; i++) {
            sum += model.blockOf(random.nextInt(many), 0);
        }
        return sum;
    }
}
