import java.lang.reflect.InvocationTargetException;
import java.lang.reflect.Method;
import java.util.ArrayList;
import java.util.HashMap;
import java.util.List;
import java.util.Map;
import java.util.Random;

/**
 * Random runs of at most 512 calls, each on a new object, compared with the model. The seeds are
 * fixed: a run that fails does so again. Two arguments give another first seed and another count.
 */
public final class ModelTests {
    private static final int CALLS = 512;
    private static final Map<String, Method> REAL = methods(Remotepane.class);
    private static final Map<String, Method> DUE = methods(Model.class);

    private final Random random;
    private final Remotepane x = new Remotepane();
    private final Model model = new Model();
    private final List<String> told = new ArrayList<>();
    private final int flavour;
    private final int wrongEvery;
    private int calls;
    private boolean isWrong;

    private ModelTests(long seed) {
        random = new Random(seed);
        flavour = (int) (seed % 6);
        wrongEvery = seed % 3 == 0 ? 12 : 60;
    }

    public static void main(String[] args) {
        long first = args.length > 0 ? Long.parseLong(args[0]) : 1;
        int count = args.length > 1 ? Integer.parseInt(args[1]) : 120;
        int calls = 0;
        for (long seed = first; seed < first + count; seed++) {
            ModelTests run = new ModelTests(seed);
            run.go();
            Check.same("run of seed " + seed, run.isWrong, false);
            calls += run.calls;
        }
        System.out.println(calls + " calls compared");
        Check.end();
    }

    private static Map<String, Method> methods(Class<?> owner) {
        Map<String, Method> found = new HashMap<>();
        for (Method method : owner.getDeclaredMethods()) {
            if (java.lang.reflect.Modifier.isPublic(method.getModifiers())) {
                found.put(method.getName(), method);
            }
        }
        return found;
    }

    private static String answer(Method method, Object owner, Object[] args) {
        try {
            return String.valueOf(method.invoke(owner, args));
        } catch (InvocationTargetException thrown) {
            return "throws " + thrown.getCause().getClass().getName();
        } catch (IllegalAccessException shut) {
            return "can't be called";
        }
    }

    private void call(String name, Object... args) {
        if (calls >= CALLS || isWrong) {
            return;
        }
        calls++;
        String got = answer(REAL.get(name), x, args);
        String due = answer(DUE.get(name), model, args);
        told.add(name + java.util.Arrays.toString(args) + " = " + got);
        if (!got.equals(due)) {
            isWrong = true;
            for (String line : told) {
                System.out.println(line);
            }
            System.out.println("due is " + due);
        }
    }

    private int any(int least, int most) {
        return least + random.nextInt(most - least + 1);
    }

    /** A number of the range, and now and then one just outside. */
    private int num(int least, int most) {
        if (any(1, wrongEvery) == 1) {
            return random.nextBoolean() ? least - 1 : most + 1;
        }
        return any(least, most);
    }

    private int session() {
        return num(0, sessions - 1);
    }

    private int client() {
        return num(0, clients - 1);
    }

    private int sessions;
    private int clients;

    private int colour() {
        return any(1, 12) == 1 ? num(0, 255) : any(1, 3) == 1 ? any(100, 103) : any(0, 4);
    }

    private char letter() {
        return any(1, wrongEvery) == 1 ? (char) any(90, 130) : (char) any('a', 'd');
    }

    private void go() {
        sessions = flavour == 0 ? 1 : any(1, 4);
        clients = any(1, 6);
        for (int i = 0; i < sessions; i++) {
            call("openSession");
            call("openWindow", i, any(-1, 1), any(-1, 1), any(8, 12), any(5, 8));
        }
        for (int i = 0; i < clients; i++) {
            call("join", any(0, sessions - 1), any(0, 9));
        }
        while (calls < CALLS && !isWrong) {
            step();
        }
    }

    private void step() {
        int pick = any(1, 100);
        if (pick <= 30) {
            window();
        } else if (pick <= 45) {
            look();
        } else if (pick <= 60) {
            call("tick", any(1, 8) == 1 ? num(1, 20) : any(1, 2));
        } else if (pick <= 75) {
            typing();
        } else if (pick <= 82) {
            clipboard();
        } else if (pick <= 97) {
            moveAndRecord();
        } else {
            rare();
        }
    }

    private void rare() {
        switch (any(1, 6)) {
            case 1 -> call("openSession");
            case 2 -> call("join", session(), num(0, 9));
            case 3 -> call("bid", client(), num(0, 9));
            case 4 -> call("closeWindow", session(), num(0, 5));
            case 5 -> call("openWindow", session(), num(-5, 11), num(-5, 7), num(1, 12), num(1, 8));
            default -> call("isConsistent");
        }
    }

    private void window() {
        int session = session();
        int window = any(1, 3) == 1 ? num(0, 5) : any(0, 1);
        switch (any(1, flavour == 1 ? 22 : 14)) {
            case 1 -> call("raise", session, window);
            case 2 -> call("show", session, window, any(1, 3) > 1);
            case 3 -> call("mark", session, window, random.nextBoolean(), any(1, 4) == 1);
            case 4, 5 -> call("moveWindow", session, window, num(-5, 11), num(-5, 7));
            case 6, 7, 8 -> call("moveWindow", session, window, any(-2, 2), any(-2, 2));
            case 9 -> call("openWindow", session, any(-2, 8), any(-2, 5), any(1, 6), any(1, 6));
            case 10 -> call("draw", session, window, num(0, 11), num(0, 7), num(1, 12), num(1, 8), colour());
            default -> call("draw", session, window, any(0, 8), any(0, 5), any(1, 4), any(1, 3), colour());
        }
    }

    private void look() {
        int client = client();
        switch (any(1, 10)) {
            case 1 -> call("money", client);
            case 2 -> call("picture", client, num(0, 11), num(0, 7));
            case 3 -> call("seen", client, num(0, 11), num(0, 7));
            case 4 -> call("behind", client);
            case 5, 6 -> call("next", client);
            case 7 -> call("nextCost", client);
            case 8 -> call("meanBehind");
            case 9 -> call("carried");
            default -> call("screen", session(), num(0, 11), num(0, 7));
        }
    }

    private void typing() {
        int client = client();
        switch (any(1, 10)) {
            case 1 -> call("guesses", client);
            case 2, 3 -> call("rightShare", client);
            case 4, 5 -> call("seen", client, any(0, 4), any(0, 3));
            case 6 -> {
                for (int i = any(1, 8); i > 0; i--) {
                    call("type", client, letter());
                }
            }
            default -> call("type", client, letter());
        }
    }

    private void clipboard() {
        switch (any(1, 6)) {
            case 1 -> call("copy", session(), any(1, 4) == 1 ? num(0, 2) : 1, num(0, 9999));
            case 2, 3 -> call("allow", session(), session(), any(1, 4) == 1 ? num(0, 2) : 1, any(1, 4) > 1);
            default -> call("paste", session(), session());
        }
    }

    private void moveAndRecord() {
        int session = session();
        switch (any(1, 16)) {
            case 1, 2 -> call("move", session);
            case 3, 4, 5 -> call("left", session);
            case 6, 7 -> call("host", session);
            case 8 -> call("record", session);
            case 9, 10 -> call("noted", session);
            case 11 -> call("isConsistent");
            default -> call("played", session, any(1, 4) == 1 ? num(1, 60) : any(1, 6), num(0, 11), num(0, 7));
        }
    }
}
