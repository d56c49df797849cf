import java.lang.reflect.InvocationTargetException;
import java.lang.reflect.Method;
import java.util.ArrayDeque;
import java.util.Arrays;
import java.util.Random;

/** All promises at once: long runs of calls of every kind, right and wrong ones, beside the answers of the model. */
public final class ModelTest {
    private static final int OBJECTS = 160;
    private static final int CALLS = 512;
    private static final int[] FAR_OFF = {-1, -2, 97, 200, 256, 65536, Integer.MIN_VALUE, Integer.MAX_VALUE};
    private static final String[] CHANGES = {"type", "cut", "turn", "score", "score", "scores", "costs"};
    private static final String[] QUESTIONS = {"letter", "size", "steps", "step", "step", "place", "count", "run", "run",
        "ways", "crossing", "crossing", "worth"};

    private final Check check = new Check("ModelTest");
    private final Random random = new Random(512);
    private final ArrayDeque<Call> plan = new ArrayDeque<>();
    private RowAligner x;
    private Model model;
    private int letters;
    private int longest;

    private record Call(String name, Object... arguments) {
    }

    public static void main(String[] args) throws ReflectiveOperationException {
        ModelTest test = new ModelTest();
        for (int k = 0; k < OBJECTS; k++) {
            test.use(k);
        }
        test.check.end();
    }

    private void use(int object) throws ReflectiveOperationException {
        x = new RowAligner();
        model = new Model();
        letters = object % 5 == 0 ? 26 : 1 + random.nextInt(4);
        longest = object % 8 == 0 ? 96 : object % 3 == 0 ? 30 : random.nextInt(8);
        plan.clear();
        if (object % 16 == 1) {
            planFullDraft();
        }
        for (int call = 1; call <= CALLS; call++) {
            Call next = plan.isEmpty() ? nextCall() : plan.remove();
            String told = "object " + object + ", call " + call + ", " + next.name + Arrays.toString(next.arguments);
            check.same(told, answer(x, next), answer(model, next));
        }
    }

    private static String answer(Object target, Call call) throws ReflectiveOperationException {
        for (Method m : target.getClass().getDeclaredMethods()) {
            if (m.getName().equals(call.name) && m.getParameterCount() == call.arguments.length) {
                try {
                    return String.valueOf(m.invoke(target, call.arguments));
                } catch (InvocationTargetException e) {
                    return "throws " + e.getCause().getClass().getSimpleName();
                }
            }
        }
        throw new NoSuchMethodException(call.name);
    }

    /** Rows grow to what is the longest for this object; each change is followed by several questions. */
    private Call nextCall() {
        boolean grows = model.size(0) < longest || model.size(1) < longest;
        int dice = random.nextInt(100);
        if (grows && dice < 60) {
            return called("type");
        }
        if (dice < 4) {
            return called(CHANGES[random.nextInt(CHANGES.length)]);
        }
        if (dice < 16) {
            return called(random.nextInt(3) == 0 ? "parts" : "whole");
        }
        if (dice < 17) {
            planDraft();
            return called("wipe");
        }
        if (dice < 20) {
            return called(random.nextInt(8) == 0 ? "wipe" : "draw");
        }
        return called(QUESTIONS[random.nextInt(QUESTIONS.length)]);
    }

    private Call called(String name) {
        int row = below(2);
        int size = row == 0 || row == 1 ? model.size(row) : 3;
        switch (name) {
            case "type":
                return typed(row);
            case "cut":
                return new Call(name, row, random.nextInt(3) == 0 ? below(size + 1) : size - random.nextInt(4));
            case "turn":
            case "size":
                return new Call(name, row);
            case "letter":
                return new Call(name, row, below(size));
            case "score":
                return new Call(name, below(letters), below(letters), price(-512));
            case "scores":
                return new Call(name, price(-512), price(-512));
            case "costs":
                return new Call(name, price(0), price(0));
            case "whole":
            case "worth":
                return new Call(name, below(16));
            case "step":
                return new Call(name, below(stepsOfLaying()));
            case "place":
                return new Call(name, row, random.nextBoolean());
            case "count":
                return new Call(name, below(4));
            case "run":
                return new Call(name, below(random.nextBoolean() ? 3 : runsOfLaying()), below(2));
            case "crossing":
                return new Call(name, below(model.size(0) + 1));
            case "draw":
                return new Call(name, below(3));
            default:
                return new Call(name);
        }
    }

    private int stepsOfLaying() {
        try {
            return model.steps();
        } catch (IllegalStateException e) {
            return 2;
        }
    }

    private int runsOfLaying() {
        try {
            return model.count(0);
        } catch (IllegalStateException e) {
            return 2;
        }
    }

    /** Steps by chance are hardly ever a whole laying, so these are made to be one, unless that takes too long. */
    private void planDraft() {
        int i = model.size(0);
        int j = model.size(1);
        int mostly = random.nextInt(3);
        while (i + j > 0 && i + j + plan.size() < 100) {
            int step = random.nextInt(3) == 0 ? random.nextInt(3) : mostly;
            step = i == 0 ? 2 : j == 0 ? 1 : step;
            i -= step == 2 ? 0 : 1;
            j -= step == 1 ? 0 : 1;
            plan.add(new Call("draw", step));
        }
        for (int k = 0; k < 4; k++) {
            plan.add(called("worth"));
        }
    }

    private void planFullDraft() {
        for (int k = 0; k < 204; k++) {
            plan.add(called("draw"));
        }
    }

    private Call typed(int row) {
        int n = random.nextInt(20) == 0 ? below(10) : 1 + random.nextInt(8);
        long w = 0;
        for (int k = 0; k < 8; k++) {
            w = w << 8 | 97 + random.nextInt(letters);
        }
        if (random.nextInt(20) == 0) {
            int shift = 8 * random.nextInt(8);
            w = w & ~(255L << shift) | (long) random.nextInt(256) << shift;
        }
        return new Call("type", row, w, n);
    }

    /** Mostly 0 .. bound - 1, now and then what lies just beside that or far off. */
    private int below(int bound) {
        int dice = random.nextInt(40);
        if (dice == 0) {
            return bound;
        }
        if (dice == 1) {
            return FAR_OFF[random.nextInt(FAR_OFF.length)];
        }
        return dice == 2 || bound == 0 ? bound - 1 : random.nextInt(bound);
    }

    /** Small ones make many layings worth the same. */
    private int price(int least) {
        int dice = random.nextInt(30);
        if (dice == 0) {
            return least - 1;
        }
        if (dice == 1) {
            return 513;
        }
        if (dice < 5) {
            return dice == 2 ? least : dice == 3 ? 512 : least + random.nextInt(513 - least);
        }
        return least == 0 ? random.nextInt(3) : random.nextInt(7) - 3;
    }
}
