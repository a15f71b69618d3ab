import java.lang.reflect.InvocationTargetException;
import java.lang.reflect.Method;
import java.util.Arrays;
import java.util.HashMap;
import java.util.Map;
import java.util.Random;

/** Many runs of 512 calls on the class and on the model: each call answers, or throws, the same on both. */
public final class ModelTest {
    private static final int RUNS = 400;
    private static final int CALLS = 512;
    private static final String TEXT_SIGNS = "0123456789sa+;";
    private static final Map<String, Method[]> METHODS = methods();

    private static Map<String, Method[]> methods() {
        Map<String, Method[]> all = new HashMap<>();
        for (Method real : PensionSections.class.getDeclaredMethods()) {
            for (Method model : Model.class.getMethods()) {
                if (model.getName().equals(real.getName())
                    && Arrays.equals(model.getParameterTypes(), real.getParameterTypes())) {
                    all.put(real.getName(), new Method[] {real, model});
                }
            }
        }
        return all;
    }

    private final PensionSections real = new PensionSections();
    private final Model model = new Model();
    private final StringBuilder told = new StringBuilder();
    private final int run;
    private final Random random;
    private int calls = 0;
    private boolean isWrong = false;

    private ModelTest(int run) {
        this.run = run;
        this.random = new Random(run);
    }

    private static Object outcome(Method method, Object target, Object[] arguments) {
        try {
            return method.invoke(target, arguments);
        } catch (InvocationTargetException e) {
            return e.getCause().getClass().getSimpleName();
        } catch (IllegalAccessException e) {
            return e.toString();
        }
    }

    private void call(String name, Object... arguments) {
        if (isWrong || calls >= CALLS) {
            return;
        }
        calls++;
        Method[] both = METHODS.get(name);
        Object got = outcome(both[0], real, arguments);
        Object due = outcome(both[1], model, arguments);
        told.append(name).append(Arrays.toString(arguments)).append(" = ").append(got).append('\n');
        if (!got.equals(due)) {
            isWrong = true;
            System.out.println("run " + run + ", due is " + due + " of the last call:\n" + told);
        }
        Check.isTrue("run " + run + ": " + name, got.equals(due));
    }

    private int near(int least, int most) {
        int kind = random.nextInt(24);
        if (kind < 2) {
            return least - kind;
        }
        if (kind < 4) {
            return most + kind - 2;
        }
        return least + random.nextInt(most - least + 1);
    }

    private int numbered() {
        return random.nextInt(30) == 0 ? near(-1, 20) : model.member(random.nextInt(8), 0);
    }

    private int pick(int... values) {
        return values[random.nextInt(values.length)];
    }

    private void write() {
        if (random.nextInt(3) > 0) {
            call("clearBuffer");
        }
        StringBuilder text = new StringBuilder();
        int parts = 1 + random.nextInt(3);
        for (int i = 0; i < parts; i++) {
            text.append(i > 0 ? ";" : "").append(pick(1, 7, 40, 999, near(1, 9999)));
            text.append('s').append(random.nextInt(random.nextInt(9) == 0 ? 4 : 3));
            text.append('a').append(random.nextInt(9) == 0 ? near(10, 90) : near(17, 78));
            if (random.nextInt(2) == 0) {
                text.append('+').append(pick(5, 99999, near(1, 99999)));
            }
        }
        if (random.nextInt(4) == 0) {
            int place = random.nextInt(text.length());
            text.setCharAt(place, TEXT_SIGNS.charAt(random.nextInt(TEXT_SIGNS.length())));
        }
        for (int i = 0; i < text.length(); i++) {
            call("append", (int) text.charAt(i));
        }
        call("firstError");
        call("joinAll");
    }

    private void changeSomething() {
        switch (random.nextInt(15)) {
            case 0 -> call("section", near(0, 2), near(10, 300), near(20, 200));
            case 1 -> call("close", near(0, 2), random.nextInt(3) == 0);
            case 2, 3, 4 -> call("join", near(0, 2), pick(1, 9, near(1, 9999)), pick(near(192, 959), near(640, 800)));
            case 5 -> call("leave", random.nextInt(4) == 0 ? numbered() : -1);
            case 6 -> call("pay", numbered(), pick(1, 9, near(1, 9999)));
            case 7 -> call("change", numbered(), near(0, 2));
            case 8, 9 -> call("fallBehind", numbered(), random.nextBoolean());
            case 10 -> call("payLate", numbered(), pick(1, near(1, 3000), near(1, 9999999)));
            case 11 -> call("transfer", numbered(), pick(near(1, 9999999), near(1, 100000), 9999999));
            case 12 -> call("retire", numbered());
            case 13 -> setSomething();
            default -> call("undo");
        }
    }

    private void setSomething() {
        int setting = near(0, 3);
        int[][] ranges = {{600, 900}, {1, 60}, {0, 50}, {1, 20}};
        int[] range = ranges[Math.floorMod(setting, 4)];
        call("set", setting, near(range[0], range[1]));
    }

    private void lookAtSomething() {
        switch (random.nextInt(12)) {
            case 0 -> call("sectionOf", near(0, 2), near(0, 5));
            case 1 -> call("member", near(0, 7), near(0, 11));
            case 2 -> call("late", numbered(), random.nextInt(3) == 0 ? near(0, 60) : near(0, 5), near(0, 3));
            case 3 -> call("count", near(0, 7));
            case 4 -> call("sum", near(0, 5));
            case 5 -> call("setting", near(0, 3));
            case 6 -> call("ifPassed", pick(near(1, 240), near(1, 24)), near(0, 3));
            case 7 -> call("pensionIn", numbered(), near(0, 240));
            case 8 -> call("bestSection", numbered());
            case 9 -> call("fundLasts");
            case 10 -> call("inTime");
            default -> call("append", near(33, 126));
        }
    }

    private void passSome() {
        call("pass", pick(1, 1, 2, near(1, 12), near(1, 12), near(1, 120)));
    }

    /** Some runs begin where the fund is nearly full, or the months are nearly all gone. */
    private void begin() {
        if (run % 8 == 4) {
            call("set", 3, 20);
            call("join", 2, 9999, 192);
            for (int i = 0; i < 100; i++) {
                call("transfer", 0, 9999999);
            }
        } else if (run % 8 == 3) {
            for (int i = 0; i < 83; i++) {
                call("pass", 120);
            }
        }
    }

    private void go() {
        begin();
        int style = run % 4;
        while (calls < CALLS && !isWrong) {
            int kind = random.nextInt(20);
            if (kind < 8) {
                changeSomething();
            } else if (kind < 11) {
                passSome();
            } else if (kind < 17) {
                lookAtSomething();
            } else if (kind == 17 && style == 0) {
                write();
            } else if (kind == 18 && style == 1) {
                call("pass", 120);
            } else if (kind == 19 && style == 2) {
                call("transfer", numbered(), 9999999);
            }
            if (random.nextInt(4) == 0) {
                call("digest");
            }
        }
    }

    public static void main(String[] args) {
        int runs = args.length > 0 ? Integer.parseInt(args[0]) : RUNS;
        Check.same("methods of both", METHODS.size(), 29);
        for (int run = 0; run < runs; run++) {
            new ModelTest(run).go();
        }
        Check.end();
    }
}
