import java.lang.reflect.InvocationTargetException;
import java.lang.reflect.Method;
import java.util.ArrayList;
import java.util.List;
import java.util.Map;
import java.util.Random;
import java.util.TreeMap;

/**
 * Long runs of calls, all of the face, with ordinary and wild arguments: the class must answer as the Oracle
 * does, and throw nothing but what element is promised to throw. The runs are the same each time.
 */
public final class RandomRunsTest {
    private static final int RUNS = 300;
    private static final int CALLS = 400;
    private static final int[] WILD = {
        -1, -2, 6, 8, 9, 10, 20, 21, 22, 24, 60, 61, 99, 100, 101, 1000,
        Integer.MIN_VALUE, Integer.MAX_VALUE, Integer.MAX_VALUE - 1
    };

    /** For each call the greatest number of each argument that is ordinary (the least is 0). */
    private static final Map<String, int[]> ORDINARY = new TreeMap<>();

    static {
        ORDINARY.put("street", new int[] {7});
        ORDINARY.put("hat", new int[] {7, 5});
        ORDINARY.put("person", new int[] {5, 3});
        ORDINARY.put("wind", new int[] {23});
        ORDINARY.put("comes", new int[] {20, 5});
        ORDINARY.put("wears", new int[] {7, 5});
        ORDINARY.put("blows", new int[] {23, 9});
        ORDINARY.put("shelters", new int[] {20});
        ORDINARY.put("pins", new int[] {5, 9});
        ORDINARY.put("moves", new int[] {5, 20});
        ORDINARY.put("hours", new int[] {3});
        ORDINARY.put("hatThen", new int[] {7, 30, 1});
        ORDINARY.put("personThen", new int[] {5, 30});
        ORDINARY.put("then", new int[] {30, 2});
        ORDINARY.put("taken", new int[] {7});
        ORDINARY.put("caught", new int[] {5});
        ORDINARY.put("back", new int[] {5, 7});
        ORDINARY.put("lost", new int[] {7});
        ORDINARY.put("allWear", new int[] {30});
        ORDINARY.put("stand", new int[] {5, 30, 1});
        ORDINARY.put("wear", new int[] {5, 30});
        ORDINARY.put("calm", new int[] {2});
        ORDINARY.put("fewestPins", new int[] {5, 30});
        ORDINARY.put("shut", new int[] {30});
        ORDINARY.put("bestSale", new int[] {30});
        ORDINARY.put("race", new int[] {});
        ORDINARY.put("swaps", new int[] {30});
        ORDINARY.put("whatIs", new int[] {7, 7, 2});
        ORDINARY.put("two", new int[] {5, 5, 24});
        ORDINARY.put("gusts", new int[] {5, 7, 20, 1});
        ORDINARY.put("mean", new int[] {1});
        ORDINARY.put("wager", new int[] {7, 7});
        ORDINARY.put("forged", new int[] {7, 7});
        ORDINARY.put("judge", new int[] {7});
        ORDINARY.put("thursdays", new int[] {20, 99999, 1});
        ORDINARY.put("image", new int[] {});
        ORDINARY.put("restore", new int[] {});
        ORDINARY.put("count", new int[] {6});
        ORDINARY.put("keep", new int[] {7, 1, 7, 9});
        ORDINARY.put("row", new int[] {7, 2, 6});
        ORDINARY.put("put", new int[] {7, 6, 21});
        ORDINARY.put("element", new int[] {7, 6});
        ORDINARY.put("copy", new int[] {7, 6, 7, 6, 6});
        ORDINARY.put("cost", new int[] {7});
        ORDINARY.put("toss", new int[] {7});
    }

    private final Due due = new Due("RandomRunsTest");
    private final Map<String, Integer> told = new TreeMap<>();

    public static void main(String[] args) throws Exception {
        RandomRunsTest test = new RandomRunsTest();
        for (int run = 0; run < RUNS; run++) {
            test.run(run);
        }
        test.everyCallAnswered();
        test.due.end();
    }

    /** A random test that only ever met refusals would prove nothing. */
    private void everyCallAnswered() {
        for (String name : ORDINARY.keySet()) {
            due.isTrue(name + " answered often", told.getOrDefault(name, 0) >= 50);
        }
    }

    private void run(int seed) throws Exception {
        Random random = new Random(seed);
        HatsOfTheWind x = new HatsOfTheWind();
        Oracle oracle = new Oracle();
        List<String> names = new ArrayList<>(ORDINARY.keySet());
        begin(x, oracle, random, seed);
        for (int call = 0; call < CALLS; call++) {
            int kind = random.nextInt(20);
            if (kind == 0) {
                layText(x, oracle, random, seed);
            } else if (kind < 4) {
                layTrueRow(x, oracle, random, seed);
            } else {
                String name = names.get(random.nextInt(names.size()));
                if (name.equals("restore") && random.nextInt(3) > 0) {
                    continue;
                }
                both(x, oracle, seed, name, arguments(random, ORDINARY.get(name)));
            }
        }
    }

    private void begin(HatsOfTheWind x, Oracle oracle, Random random, int seed) throws Exception {
        for (int hour = 0; hour < 24; hour++) {
            both(x, oracle, seed, "blows", hour, Math.max(0, random.nextInt(14) - 4));
        }
        int people = random.nextInt(7);
        for (int person = 0; person < people; person++) {
            both(x, oracle, seed, "comes", random.nextInt(21), 1 + random.nextInt(5));
            both(x, oracle, seed, "keep", 0, 1, random.nextInt(8), random.nextInt(10));
            both(x, oracle, seed, "pins", person, Math.max(0, random.nextInt(8) - 4));
            if (random.nextInt(4) > 0) {
                both(x, oracle, seed, "wears", 0, person);
            }
        }
    }

    private static int[] arguments(Random random, int[] most) {
        int[] arguments = new int[most.length];
        for (int i = 0; i < most.length; i++) {
            boolean wild = random.nextInt(25) == 0;
            arguments[i] = wild ? WILD[random.nextInt(WILD.length)] : random.nextInt(most[i] + 1);
        }
        return arguments;
    }

    private void both(HatsOfTheWind x, Oracle oracle, int run, String name, int... arguments) throws Exception {
        Class<?>[] types = new Class<?>[arguments.length];
        Object[] boxed = new Object[arguments.length];
        StringBuilder call = new StringBuilder("run " + run + " " + name);
        for (int i = 0; i < arguments.length; i++) {
            types[i] = int.class;
            boxed[i] = arguments[i];
            call.append(' ').append(arguments[i]);
        }
        String got = answer(HatsOfTheWind.class.getMethod(name, types), x, boxed);
        String want = answer(Oracle.class.getDeclaredMethod(name, types), oracle, boxed);
        boolean same = got.equals(want);
        due.isTrue(same ? "" : call + " answered " + got + ", due is " + want + ":", same);
        if (!want.startsWith("-") && !want.startsWith("throws") && !want.equals("1000000001")) {
            told.merge(name, 1, Integer::sum);
        }
    }

    private static String answer(Method method, Object on, Object[] arguments) throws Exception {
        try {
            return method.invoke(on, arguments).toString();
        } catch (InvocationTargetException e) {
            return "throws " + e.getCause().getClass().getName();
        }
    }

    private void layText(HatsOfTheWind x, Oracle oracle, Random random, int run) throws Exception {
        StringBuilder text = new StringBuilder();
        int statements = random.nextInt(5);
        for (int k = 0; k < statements; k++) {
            text.append(statement(random));
        }
        if (random.nextInt(6) == 0 && text.length() > 0) {
            text.setCharAt(random.nextInt(text.length()), "phwlit;059 x\0".charAt(random.nextInt(13)));
        }
        if (random.nextInt(12) == 0 && text.length() > 0) {
            text.setLength(random.nextInt(text.length()));
        }
        int d = random.nextInt(8);
        both(x, oracle, run, "row", d, 0, text.length());
        for (int i = 0; i < text.length(); i++) {
            both(x, oracle, run, "put", d, i, text.charAt(i));
        }
        both(x, oracle, run, "street", d);
    }

    private static String statement(Random random) {
        boolean wild = random.nextInt(10) == 0;
        switch (random.nextInt(6)) {
            case 0:
                return String.format("p%02d%d;", random.nextInt(wild ? 100 : 21), wild ? random.nextInt(10) : 2);
            case 1:
                return String.format("h%d%d%d;", random.nextInt(wild ? 10 : 8), random.nextInt(10), random.nextInt(6));
            case 2:
                return String.format("w%02d%d;", random.nextInt(wild ? 100 : 24), random.nextInt(10));
            case 3:
                return String.format("l%02d;", random.nextInt(wild ? 100 : 21));
            case 4:
                return String.format("i%d%d;", random.nextInt(wild ? 10 : 4), random.nextInt(10));
            default:
                return String.format("t%02d;", random.nextInt(wild ? 100 : 4));
        }
    }

    /** A row that is true, or true but for a skipped or a wrong element, and the call that reads it. */
    private void layTrueRow(HatsOfTheWind x, Oracle oracle, Random random, int run) throws Exception {
        int hats = oracle.hats();
        if (hats == 0) {
            return;
        }
        int d = random.nextInt(8);
        int hat = random.nextInt(hats);
        int sort = random.nextInt(3);
        int size = random.nextInt(40) == 0 ? 100 : random.nextInt(7);
        int kind = random.nextInt(4);
        int[] row;
        if (kind == 0) {
            row = oracle.truePlaces(hat, size);
        } else if (kind == 1) {
            row = oracle.trueHeads(size);
        } else if (kind == 2) {
            row = oracle.trueFlight(hat, random.nextInt(22), size);
        } else {
            row = new int[size];
            for (int i = 0; i < size; i++) {
                row[i] = 1 + random.nextInt(random.nextInt(5) == 0 ? 100 : 12);
            }
        }
        lay(x, oracle, random, run, d, sort, row);
        if (kind == 0) {
            both(x, oracle, run, "whatIs", d, hat, random.nextInt(3));
        } else if (kind == 1) {
            both(x, oracle, run, "judge", d);
        } else if (kind == 2) {
            both(x, oracle, run, "forged", d, hat);
        } else {
            both(x, oracle, run, "wager", d, hat);
        }
    }

    private void lay(HatsOfTheWind x, Oracle oracle, Random random, int run, int d, int sort, int[] row)
            throws Exception {
        int least = new int[] {Byte.MIN_VALUE, Short.MIN_VALUE, Integer.MIN_VALUE}[sort];
        both(x, oracle, run, "row", d, sort, row.length);
        for (int i = 0; i < row.length; i++) {
            int v = row[i];
            int change = random.nextInt(30);
            if (change < 3) {
                v = least;
            } else if (change == 3) {
                v += random.nextInt(3) - 1;
            } else if (change == 4) {
                v = random.nextInt(24) - 1;
            }
            both(x, oracle, run, "put", d, i, v);
        }
    }
}
