import java.lang.reflect.InvocationTargetException;
import java.lang.reflect.Method;
import java.lang.reflect.Modifier;
import java.util.Arrays;
import java.util.HashMap;
import java.util.List;
import java.util.Map;
import java.util.Random;

/** Long runs of calls, the same in each run of the test, on the program and on the reference beside it. */
public final class RandomRunsTest {
    private static final Check CHECK = new Check();
    private static final Map<String, Method> PROGRAM = openMethods(FormOffice.class);
    private static final Map<String, Method> REFERENCE = openMethods(ReferenceOffice.class);
    private static final int RUNS = 5000;
    private static final int CALLS = 512;

    private final Random random;
    private final FormOffice office = new FormOffice();
    private final ReferenceOffice reference = new ReferenceOffice();
    private final StringBuilder told = new StringBuilder();
    private int calls = 0;
    /** Runs are of several kinds, so that rings, overflow and full accounts come up often enough. */
    private final int definesOfHundred;
    private final boolean large;
    private final int taxpayers;

    private RandomRunsTest(long seed) {
        random = new Random(seed);
        definesOfHundred = random.nextInt(20);
        large = random.nextBoolean();
        taxpayers = random.nextBoolean() ? 1 : 3;
    }

    public static void main(String[] args) {
        int runs = args.length > 0 ? Integer.parseInt(args[0]) : RUNS;
        for (int seed = 0; seed < runs; seed++) {
            new RandomRunsTest(seed).run();
        }
        CHECK.done();
    }

    private void run() {
        for (int line = 1; large && line < 4; line++) {
            define(line, (char) ('A' + line - 1) + "*999%");
        }
        for (int i = 0; i < 4; i++) {
            defineSomething();
        }
        while (calls < CALLS - 60) {
            step();
        }
        while (calls < CALLS) {
            look(random.nextInt(28));
        }
    }

    private void step() {
        int kind = random.nextInt(100);
        if (random.nextInt(100) < definesOfHundred) {
            defineSomething();
        } else if (kind < 25) {
            int v = large || random.nextInt(4) == 0 ? edge(1000000000) : random.nextInt(2001) - 1000;
            both("file", taxpayer(), number(4), number(12), v);
        } else if (kind < 53) {
            both("assess", taxpayer(), number(4));
        } else if (kind < 63) {
            both("bracket", number(3), random.nextInt(3) == 0 ? edge(1000000000) : random.nextInt(2000), edge(1000));
        } else if (kind < 64) {
            both("reset", number(3), number(3));
        } else if (kind < 66) {
            both("pay", taxpayer(), random.nextBoolean() ? edge(1000000000) : 1 + random.nextInt(1000));
        } else if (kind < 72) {
            both("pass", edge(1000));
        } else {
            look(kind - 72);
        }
    }

    private void look(int kind) {
        if (kind < 2) {
            both("interest", random.nextInt(3) == 0 ? edge(30) : random.nextInt(31));
        } else if (kind < 5) {
            both("input", number(12));
        } else if (kind < 6) {
            both("total", number(12));
        } else if (kind < 9) {
            both("order", number(12));
        } else if (kind < 15) {
            both("value", taxpayer(), number(4), number(12));
        } else if (kind < 19) {
            both("share", taxpayer(), number(4), number(12));
        } else if (kind < 21) {
            both("balance", taxpayer());
        } else if (kind < 27) {
            both("posting", taxpayer(), number(24), number(3));
        } else {
            both("clear");
        }
    }

    private int taxpayer() {
        return taxpayers == 1 && random.nextInt(8) > 0 ? 0 : number(3);
    }

    /** Mostly a number that there is; now and then one beside those. */
    private int number(int end) {
        return random.nextInt(40) == 0 ? (random.nextBoolean() ? -1 : end) : random.nextInt(end);
    }

    private int edge(int most) {
        List<Integer> edges = List.of(-most - 1, -most, -1, 0, 1, most, most - 1, most + 1);
        return random.nextInt(3) == 0 ? edges.get(random.nextInt(edges.size())) : random.nextInt(most + 1);
    }

    private void defineSomething() {
        StringBuilder text = new StringBuilder();
        int line = number(12);
        // Mostly of lines before it, so that not every form is a ring.
        formula(text, 1 + random.nextInt(3), random.nextInt(8) == 0 ? 12 : Math.max(1, line));
        if (random.nextInt(6) == 0) {
            spoil(text);
        }
        define(line, text.toString());
        if (random.nextInt(3) > 0) {
            both("clear");
        }
    }

    private void define(int line, String text) {
        for (int i = 0; i < text.length(); i++) {
            both("type", text.charAt(i));
        }
        both("define", line);
    }

    private void spoil(StringBuilder text) {
        int at = random.nextInt(text.length());
        char c = "AL059'+-*%<>?:(),mxt Mz".charAt(random.nextInt(23));
        switch (random.nextInt(3)) {
            case 0:
                text.setCharAt(at, c);
                break;
            case 1:
                text.insert(at, c);
                break;
            default:
                text.deleteCharAt(at);
        }
    }

    private void formula(StringBuilder text, int size, int names) {
        sum(text, size, names);
        if (random.nextInt(5) == 0) {
            text.append(random.nextBoolean() ? '<' : '>');
            sum(text, size - 1, names);
            text.append('?');
            formula(text, size - 1, names);
            text.append(':');
            formula(text, size - 1, names);
        }
    }

    private void sum(StringBuilder text, int size, int names) {
        part(text, size, names);
        for (int more = random.nextInt(6); more > 3; more--) {
            text.append(random.nextBoolean() ? '+' : '-');
            part(text, size, names);
        }
    }

    private void part(StringBuilder text, int size, int names) {
        int kind = random.nextInt(size > 0 ? 10 : 6);
        if (kind < 5) {
            text.append((char) ('A' + random.nextInt(names))).append(kind == 0 ? "'" : "");
        } else if (kind == 5) {
            text.append(random.nextInt(random.nextBoolean() ? 10 : 1000000));
        } else if (kind == 6) {
            inside(text.append('('), size, names);
        } else if (kind == 7) {
            inside(text.append('t').append(random.nextInt(3)).append('('), size, names);
        } else {
            formula(text.append(random.nextBoolean() ? "m(" : "x("), size - 1, names);
            inside(text.append(','), size, names);
        }
        if (random.nextInt(4) == 0) {
            text.append('*').append(large ? 999 : random.nextBoolean() ? 50 : random.nextInt(1000)).append('%');
        }
    }

    private void inside(StringBuilder text, int size, int names) {
        formula(text, size - 1, names);
        text.append(')');
    }

    private void both(String call, int... numbers) {
        if (calls == CALLS) {
            return;
        }
        calls++;
        told.append(call).append(Arrays.toString(numbers)).append(' ');
        Object due = answer(reference, call, numbers);
        Object got = answer(office, call, numbers);
        CHECK.same(due.equals(got) ? call : told.toString(), due, got);
        if (!due.equals(got)) {
            CHECK.done();
        }
    }

    /** What a call answers, or the class of what it throws. */
    private static Object answer(Object target, String call, int... numbers) {
        Object[] arguments = new Object[numbers.length];
        for (int i = 0; i < numbers.length; i++) {
            arguments[i] = call.equals("type") ? (Object) (char) numbers[i] : (Object) numbers[i];
        }
        try {
            return (target instanceof FormOffice ? PROGRAM : REFERENCE).get(call).invoke(target, arguments);
        } catch (InvocationTargetException e) {
            return e.getCause().getClass();
        } catch (IllegalAccessException e) {
            throw new AssertionError(e);
        }
    }

    private static Map<String, Method> openMethods(Class<?> type) {
        Map<String, Method> methods = new HashMap<>();
        for (Method method : type.getDeclaredMethods()) {
            if (!Modifier.isPrivate(method.getModifiers())) {
                methods.put(method.getName(), method);
            }
        }
        return methods;
    }
}
