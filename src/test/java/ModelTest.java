import java.lang.reflect.InvocationTargetException;
import java.lang.reflect.Method;
import java.util.Arrays;
import java.util.HashMap;
import java.util.Map;
import java.util.Random;
import java.util.TreeMap;

/** Runs of calls by fixed seeds, each on the class and on the model: both must answer the same. */
public final class ModelTest {
    private static final int RUNS = 100;
    private static final int CALLS = 512;
    private static final int CALLS_BETWEEN_DIGESTS = 12;

    private static final Map<String, Method> OF_CLASS = methodsOf(DrumTowns.class);
    private static final Map<String, Method> OF_MODEL = methodsOf(Model.class);

    private final Random random;
    private final DrumTowns land = new DrumTowns();
    private final Model model = new Model();
    private final StringBuilder told = new StringBuilder();
    private final TreeMap<String, Integer> answers;
    /** Small numbers make clashes likely, larger ones full drums. */
    private final int stepRange;
    private final int toothRange;
    private final boolean mostlyDebts;
    private int calls;
    private boolean differs;

    private ModelTest(int seed, TreeMap<String, Integer> answers) {
        random = new Random(seed);
        this.answers = answers;
        stepRange = 1 + random.nextInt(24);
        toothRange = 1 + random.nextInt(12);
        mostlyDebts = random.nextInt(4) == 0;
    }

    public static void main(String[] args) throws ReflectiveOperationException {
        TreeMap<String, Integer> answers = new TreeMap<>();
        int wrong = 0;
        for (int seed = 0; seed < RUNS; seed++) {
            ModelTest run = new ModelTest(seed, answers);
            run.go();
            if (run.differs) {
                wrong++;
                System.out.println("seed " + seed + ": " + run.told);
            }
        }
        if (args.length > 0) {
            System.out.println(answers);
        }
        if (wrong != 0) {
            System.out.println(wrong + " runs differ from the model");
            System.exit(1);
        }
    }

    private static Map<String, Method> methodsOf(Class<?> type) {
        Map<String, Method> methods = new HashMap<>();
        for (Method method : type.getMethods()) {
            if (method.getDeclaringClass() == type) {
                methods.put(method.getName(), method);
            }
        }
        return methods;
    }

    private void go() throws ReflectiveOperationException {
        int first = 1 + random.nextInt(6);
        for (int i = 0; i < first; i++) {
            call("addTown", random.nextInt(201));
        }
        int digestDue = 0;
        while (calls < CALLS && !differs) {
            if (calls >= digestDue) {
                call("digest");
                digestDue = calls + CALLS_BETWEEN_DIGESTS;
            }
            if (mostlyDebts && random.nextInt(3) > 0) {
                callDebts();
            } else if (random.nextInt(3) == 0) {
                callReading();
            } else {
                callChange();
            }
        }
    }

    private int town() {
        return random.nextInt(30) == 0 ? random.nextInt(10) - 2 : random.nextInt(Math.max(1, model.count(0)));
    }

    private int step() {
        return random.nextInt(60) == 0 ? random.nextInt(28) - 2 : random.nextInt(stepRange);
    }

    private int tooth() {
        return random.nextInt(60) == 0 ? random.nextInt(16) - 2 : random.nextInt(toothRange);
    }

    private void callDebts() throws ReflectiveOperationException {
        switch (random.nextInt(8)) {
            case 0: call("repay", town(), town(), random.nextInt(12)); break;
            case 1: call("ring", random.nextInt(3) == 0 ? random.nextInt(18) - 1 : random.nextInt(2)); break;
            case 2: call(random.nextInt(3) == 0 ? "settle" : "undo"); break;
            default: call("lend", town(), town(), random.nextInt(20) == 0 ? random.nextInt(300) : random.nextInt(12));
        }
    }

    private void callChange() throws ReflectiveOperationException {
        switch (random.nextInt(24)) {
            case 0: call("addTown", random.nextInt(240) - 10); break;
            case 1: changeSetting(); break;
            case 2: pullOrMove(); break;
            case 3: call("move", town(), town(), step(), tooth()); break;
            case 4: call("trade", town(), town()); break;
            case 5: call("turn", town(), random.nextInt(27) - 1); break;
            case 6: call("file", town(), tooth()); break;
            case 7: case 8: call("play", town()); break;
            case 9: callDebts(); break;
            case 10: case 11: learnTune(); break;
            case 12: writeNonsense(); break;
            case 13: call("undo"); break;
            case 14: for (int i = random.nextInt(9); i > 0; i--) { call("undo"); } break;
            default: putPins();
        }
    }

    private void changeSetting() throws ReflectiveOperationException {
        switch (random.nextInt(6)) {
            case 0: call("set", 0, random.nextInt(27) - 1); break;
            case 1: call("set", 0, random.nextInt(6)); break;
            case 2: call("set", 1, random.nextInt(104) - 1); break;
            case 3: call("set", 1, random.nextInt(6)); break;
            case 4: call("set", 2, random.nextBoolean() ? random.nextInt(1003) - 1 : random.nextInt(200)); break;
            default: call("set", random.nextInt(6) - 2, random.nextInt(40));
        }
    }

    private void putPins() throws ReflectiveOperationException {
        int town = town();
        for (int i = random.nextInt(8); i >= 0; i--) {
            call("put", town, step(), tooth());
        }
    }

    /** Takes the latest pin of a step that has one, so that most of these calls find a pin. */
    private void pullOrMove() throws ReflectiveOperationException {
        int town = random.nextInt(Math.max(1, model.count(0)));
        for (int tries = 0; tries < 24; tries++) {
            int step = random.nextInt(stepRange);
            int pins = model.count(0) == 0 ? 0 : model.step(town, step, 0);
            if (pins != 0) {
                int tooth = Integer.numberOfTrailingZeros(Integer.highestOneBit(pins));
                if (random.nextBoolean()) {
                    call("pull", town, step, tooth);
                } else {
                    call("move", town, town(), step, tooth);
                }
                return;
            }
        }
    }

    private void learnTune() throws ReflectiveOperationException {
        call("clearBuffer");
        int steps = 1 + random.nextInt(random.nextInt(6) == 0 ? 26 : Math.min(stepRange, 12));
        for (int i = 0; i < steps; i++) {
            int kind = random.nextInt(4);
            if (kind == 0) {
                call("append", '-');
            } else if (kind < 3 || toothRange < 3) {
                call("append", 'a' + random.nextInt(toothRange));
            } else {
                writeBrackets();
            }
        }
        if (random.nextInt(8) == 0) {
            call("append", "()-alm".charAt(random.nextInt(6)));
        }
        call("firstError");
        call("learn", town());
    }

    private void writeBrackets() throws ReflectiveOperationException {
        call("append", '(');
        int tooth = random.nextInt(toothRange);
        for (int i = 0; i < 4 && tooth < 12; i++) {
            call("append", 'a' + tooth);
            tooth += 1 + random.nextInt(4);
        }
        call("append", ')');
    }

    private void writeNonsense() throws ReflectiveOperationException {
        call("clearBuffer");
        String likely = "((()))--abcdefghijklm";
        for (int i = random.nextInt(14); i > 0; i--) {
            boolean any = random.nextInt(20) == 0;
            call("append", any ? random.nextInt(140) : likely.charAt(random.nextInt(likely.length())));
            call("firstError");
        }
        call("learn", town());
    }

    private void callReading() throws ReflectiveOperationException {
        switch (random.nextInt(13)) {
            case 0: call("town", town(), random.nextInt(15) - 1); break;
            case 1: call("step", town(), step(), random.nextInt(5) - 1); break;
            case 2: call("wear", town(), tooth()); break;
            case 3: call("debt", town(), town()); break;
            case 4: call("count", random.nextInt(13) - 1); break;
            case 5: call("setting", random.nextInt(5) - 1); break;
            case 6: call("ifPlayed", town(), random.nextInt(7) - 1); break;
            case 7: call("lastsFor", town()); break;
            case 8: call("bestTurn", town(), random.nextInt(4) - 1); break;
            case 9: call("bestDrum", town()); break;
            case 10: call("bestTrades", random.nextInt(18) - 1); break;
            case 11: call("ring", random.nextInt(18) - 1); break;
            default: call("tuneShare");
        }
    }

    private void call(String name, Object... arguments) throws ReflectiveOperationException {
        if (differs || calls >= CALLS) {
            return;
        }
        calls++;
        Object[] numbers = new Object[arguments.length];
        for (int i = 0; i < numbers.length; i++) {
            numbers[i] = arguments[i] instanceof Character ? (int) (Character) arguments[i] : arguments[i];
        }
        Object got = answer(OF_CLASS.get(name), land, numbers);
        Object want = answer(OF_MODEL.get(name), model, numbers);
        answers.merge(name + (got instanceof Class ? " " + ((Class<?>) got).getSimpleName() : ""), 1, Integer::sum);
        told.append(name).append(Arrays.toString(numbers)).append(' ').append(got).append("; ");
        if (!got.equals(want)) {
            differs = true;
            told.append("due is ").append(want);
        }
    }

    private static Object answer(Method method, Object target, Object[] numbers) throws ReflectiveOperationException {
        try {
            return method.invoke(target, numbers);
        } catch (InvocationTargetException e) {
            return e.getCause().getClass();
        }
    }
}
