import java.lang.reflect.InvocationTargetException;
import java.lang.reflect.Method;
import java.util.ArrayList;
import java.util.Arrays;
import java.util.HashMap;
import java.util.List;
import java.util.Map;
import java.util.Random;

/** Random runs of all calls, 512 at most on one object, each answer against that of the plain cake. */
public final class RandomRunsTest {
    private static final Due DUE = new Due("RandomRunsTest");
    private static final int RUNS = 4000;
    private static final int MOST_CALLS = 512;

    /** Each call with how often it comes among the others, and of what sort its arguments are. */
    private static final String[] CALLS = {
        "end 1 tape", "fault 1 what1", "piece 4 piece what8", "guest 3 guest what4", "worth 3 guest piece",
        "slip 3 piece way behind", "cut 22 piece way behind", "give 9 piece guest", "back 3 guest", "exchange 4 guest guest",
        "undo 4", "redo 3", "feeds 2 guest", "served 3", "next 4 what3", "envies 3 guest", "quarrel 2", "calm 4 what2",
        "halve 4 piece guest guest what2", "share 2 piece guest guest", "picks 2", "order 2", "grid 3 tier n64 what3",
        "ways 1 tier n64", "most 2 tier n999", "room 4 guest", "best 2 guest", "where 2 tier cell cell", "hungry 2",
        "law 2 more", "left 1", "iced 2 n32", "come 2 set what1", "lies 4 guest", "sized 3 n64 is", "rimmed 3 n32 is",
        "untell 3 seen", "later 2 by", "fits 3 time", "sure 3 what1 time", "ask 3 what1 time", "image 2 box", "restore 1 box",
        "about 4 what12", "feed 1 any any any any any"};

    /** What a run does more than all else, so that some come to 24 pieces, 40 acts, 30 seen, a full tape, the last time. */
    private static final String[] MOODS = {"", "cut", "give back exchange cut", "sized rimmed untell", "feed", "later"};

    private static final List<String> CHOICE = new ArrayList<>();
    private static final Map<String, Method> CLASS_METHODS = new HashMap<>();
    private static final Map<String, Method> PLAIN_METHODS = new HashMap<>();

    private final Random random;
    private final int seed;
    private final ThreeTiers x = new ThreeTiers();
    private final PlainCake plain = new PlainCake();
    private int calls;

    private RandomRunsTest(int seed) {
        this.seed = seed;
        random = new Random(seed);
    }

    public static void main(String[] args) throws NoSuchMethodException {
        for (Method method : ThreeTiers.class.getMethods()) {
            if (method.getDeclaringClass() == ThreeTiers.class) {
                CLASS_METHODS.put(method.getName(), method);
                PLAIN_METHODS.put(method.getName(), PlainCake.class.getDeclaredMethod(method.getName(), method.getParameterTypes()));
            }
        }
        for (String call : CALLS) {
            for (int i = Integer.parseInt(call.split(" ")[1]); i > 0; i--) {
                CHOICE.add(call);
            }
        }
        for (int seed = 0; seed < RUNS; seed++) {
            new RandomRunsTest(seed).run();
        }
        DUE.finish();
    }

    private void run() {
        tell();
        while (calls < MOST_CALLS) {
            if (random.nextInt(300) == 0) {
                tell();
            }
            String[] parts = choice().split(" ");
            Object[] arguments = new Object[parts.length - 2];
            for (int i = 0; i < arguments.length; i++) {
                arguments[i] = parts[i + 2].equals("is") ? (Object) random.nextBoolean() : (Object) argument(parts[i + 2]);
            }
            ask(parts[0], arguments);
        }
    }

    private String choice() {
        String[] favourites = MOODS[seed % MOODS.length].split(" ");
        String favourite = favourites[random.nextInt(favourites.length)];
        String any = CHOICE.get(random.nextInt(CHOICE.size()));
        for (String call : CALLS) {
            if (random.nextBoolean() && call.startsWith(favourite + " ")) {
                return call;
            }
        }
        return any;
    }

    /** A new cake, now and then with a fault, if there are calls enough left for its text. */
    private void tell() {
        String text = random.nextInt(8) == 0 ? RandomTexts.any(random) : RandomTexts.table(random);
        ask("end", 0);
        for (int i = 0; i < text.length(); i += 20) {
            ask("feed", Due.four(text, i), Due.four(text, i + 4), Due.four(text, i + 8), Due.four(text, i + 12), Due.four(text, i + 16));
        }
        ask("end", text.length());
        ask("cake");
        ask("fault", 0);
        ask("fault", 1);
    }

    private void ask(String name, Object... arguments) {
        if (calls >= MOST_CALLS) {
            return;
        }
        calls++;
        long got = answer(CLASS_METHODS.get(name), x, arguments);
        long due = answer(PLAIN_METHODS.get(name), plain, arguments);
        DUE.is("run " + seed + ", call " + calls + ", " + name + Arrays.toString(arguments), got, due);
    }

    private static long answer(Method method, Object of, Object... arguments) {
        try {
            Object answer = method.invoke(of, arguments);
            return answer instanceof Boolean is ? is ? 1 : 0 : (Integer) answer;
        } catch (IllegalAccessException | InvocationTargetException thrown) {
            throw new IllegalStateException(method + " threw", thrown);
        }
    }

    private int argument(String sort) {
        int[] bounds = bounds(sort);
        switch (random.nextInt(30)) {
            case 0: return bounds[0] - 1;
            case 1: return bounds[1] + 1;
            case 2: return bounds[0];
            case 3: return bounds[1];
            case 4: return random.nextInt(4) > 0 ? random.nextInt(100) - 50 : random.nextBoolean() ? Integer.MIN_VALUE : Integer.MAX_VALUE;
            default: return (int) (bounds[0] + (long) (random.nextDouble() * (bounds[1] - bounds[0] + 1L)));
        }
    }

    private int[] bounds(String sort) {
        if (sort.startsWith("what")) {
            return new int[] {0, Integer.parseInt(sort.substring(4))};
        }
        switch (sort) {
            case "tape": return new int[] {0, plain.about(10)};
            case "piece": return new int[] {0, plain.about(2) - 1};
            case "guest": return new int[] {0, plain.about(1) - 1};
            case "tier": return new int[] {0, plain.about(0) - 1};
            case "way": return new int[] {0, 1};
            case "behind": return new int[] {1, random.nextBoolean() ? 2 : 7};
            case "cell": return new int[] {0, 7};
            case "n64": return new int[] {1, random.nextBoolean() ? 64 : 12};
            case "n999": return new int[] {1, random.nextBoolean() ? 999 : 60};
            case "n32": return new int[] {0, random.nextBoolean() ? 32 : 6};
            case "more": return random.nextBoolean() ? new int[] {-99, 99} : new int[] {-5, 5};
            case "set": return new int[] {0, (1 << plain.about(1)) - 1};
            case "seen": return new int[] {0, plain.about(8) - 1};
            case "by": return new int[] {0, random.nextInt(4) > 0 && seed % MOODS.length != 5 ? 2 : 1000};
            case "time": return new int[] {Math.max(0, plain.about(9) - 5), plain.about(9)};
            case "box": return new int[] {0, 2};
            default: return new int[] {Integer.MIN_VALUE + 1, Integer.MAX_VALUE - 1};
        }
    }
}
