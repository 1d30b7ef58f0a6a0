import java.lang.reflect.InvocationTargetException;
import java.lang.reflect.Method;
import java.lang.reflect.Modifier;
import java.util.Arrays;
import java.util.Comparator;
import java.util.Random;

/** Long runs of calls by chance, of one seed each: every answer must be that of the model, wrong arguments too. */
public final class ModelTest {
    private static final int RUNS = 300;
    // the last three of the 512 that an object gets are asked at the end
    private static final int CALLS = 509;
    private static final int[] ODD = {Integer.MIN_VALUE, -1000, -1, 12, 13, 15, 100, 101, 2001, Integer.MAX_VALUE};

    private final Check check;
    private final Method[] calls;
    private final int[] thrown = new int[4];
    private final int[] askedOf;
    private Random chance;
    private int side;
    private int now;

    private ModelTest(Check check) {
        this.check = check;
        calls = Arrays.stream(Model.class.getDeclaredMethods())
                .filter(method -> Modifier.isPublic(method.getModifiers()))
                .sorted(Comparator.comparing(Method::getName)).toArray(Method[]::new);
        askedOf = new int[calls.length];
        check.due("the model's calls", calls.length, 25);
    }

    /** How often a call comes; to begin anew, or to fill the eight pixels, is rare enough that runs grow. */
    private static int weight(String call) {
        switch (call) {
            case "grid":
            case "costs":
            case "tick":
                return 1;
            case "turn":
            case "anchor":
                return 12;
            default:
                return 3;
        }
    }

    private int chooseCall() {
        int all = 0;
        for (Method call : calls) {
            all += weight(call.getName());
        }
        int left = chance.nextInt(all);
        for (int i = 0; i < calls.length; i++) {
            left -= weight(calls[i].getName());
            if (left < 0) {
                return i;
            }
        }
        return 0;
    }

    /** Mostly right numbers: of a cell, a direction, a strength, a few of a picture, defect or what. */
    private int number(String call, int place) {
        if (chance.nextInt(60) == 0) {
            return ODD[chance.nextInt(ODD.length)];
        }
        String role = call + place;
        switch (role) {
            case "grid0": case "grid1":
                return 2 + chance.nextInt(11);
            case "costs0": case "costs1":
                return chance.nextInt(21);
            case "plates0": case "turn2": case "anchor3": case "drive1": case "program2":
                return chance.nextInt(15);
            case "drive2": case "program3":
                return chance.nextInt(101);
            case "anchor2":
                return chance.nextInt(3);
            case "anchor4":
                return 1 + chance.nextInt(100);
            case "tick0":
                return 1 + chance.nextInt(chance.nextInt(4) == 0 ? 50 : 4);
            case "program1":
                return now + chance.nextInt(20);
            case "drive0": case "program0": case "ofPixel0":
                return chance.nextInt(chance.nextInt(4) + 1);
            case "pictured0": case "ghosts0": case "guesses0": case "defect0":
                return chance.nextInt(chance.nextInt(8) + 1);
            case "ofPixel1": case "told2":
                return chance.nextInt(5);
            case "defect1":
                return chance.nextInt(3);
            case "pixel2": case "pixel3":
                return 1 + chance.nextInt(3);
            case "within2": case "within3": case "border2": case "border3":
                return side - 1 - chance.nextInt(side);
            default:
                return chance.nextInt(side);
        }
    }

    private Object[] arguments(Method call) {
        Class<?>[] types = call.getParameterTypes();
        Object[] arguments = new Object[types.length];
        for (int i = 0; i < types.length; i++) {
            arguments[i] = types[i] == boolean.class ? (Object) chance.nextBoolean()
                    : (Object) number(call.getName(), i);
        }
        return arguments;
    }

    private static String answer(Object of, Method call, Object[] arguments) {
        try {
            Method own = of.getClass().getMethod(call.getName(), call.getParameterTypes());
            return String.valueOf(own.invoke(of, arguments));
        } catch (InvocationTargetException thrown) {
            return "throws " + thrown.getCause().getClass().getSimpleName();
        } catch (ReflectiveOperationException none) {
            return "is not there: " + none;
        }
    }

    private void count(String answer) {
        String[] kinds = {"throws IndexOutOfBoundsException", "throws IllegalArgumentException",
            "throws IllegalStateException"};
        int kind = Arrays.asList(kinds).indexOf(answer);
        thrown[kind < 0 ? 3 : kind]++;
    }

    private boolean call(int run, int at, NemaGrid grid, Model model) {
        int chosen = at == 0 && run % 2 == 0 ? 0 : chooseCall();
        Method call = calls[chosen];
        Object[] arguments = arguments(call);
        String got = answer(grid, call, arguments);
        String due = answer(model, call, arguments);
        check.due("run " + run + ", call " + at + ": " + call.getName() + Arrays.toString(arguments), got, due);
        count(due);
        if (!due.startsWith("throws")) {
            askedOf[chosen]++;
            if (call.getName().equals("grid")) {
                side = Math.max((Integer) arguments[0], (Integer) arguments[1]);
            }
        }
        now = model.now();
        return got.equals(due);
    }

    private void run(int run) {
        chance = new Random(run);
        side = 4;
        now = 0;
        NemaGrid grid = new NemaGrid();
        Model model = new Model();
        for (int at = 0; at < CALLS; at++) {
            if (!call(run, at, grid, model)) {
                return;
            }
        }
        check.due("run " + run + ": work is energy and heat", grid.spent(false), grid.spent(true) + grid.energy());
    }

    /** The runs are worth little if a call or an exception hardly ever comes. */
    private void dueOften() {
        for (int i = 0; i < calls.length; i++) {
            check.due(calls[i].getName() + " is called often", askedOf[i] >= 200 ? 1 : 0, 1);
        }
        for (int i = 0; i < thrown.length; i++) {
            check.due("exceptions of kind " + i + " come often", thrown[i] >= 200 ? 1 : 0, 1);
        }
    }

    public static void main(String[] args) {
        Check check = new Check("ModelTest");
        ModelTest test = new ModelTest(check);
        for (int run = 0; run < RUNS; run++) {
            test.run(run);
        }
        test.dueOften();
        if (args.length > 0) {
            System.out.println(Arrays.toString(test.thrown) + " " + Arrays.toString(test.askedOf));
        }
        check.end();
    }
}
