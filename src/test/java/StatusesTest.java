import java.lang.reflect.InvocationTargetException;
import java.lang.reflect.Method;
import java.lang.reflect.Modifier;
import java.util.ArrayList;
import java.util.Arrays;
import java.util.List;
import java.util.Map;
import java.util.Random;
import java.util.Set;
import java.util.TreeMap;
import java.util.TreeSet;

/**
 * "The numbers in brackets are the STATUSES that it can have": each call is made by numbers of all sizes, in EMPIRES of
 * all sorts. It never throws, has no STATUS but 0 and those of its promise, and each of these is met; refused, it
 * answers NONE or false.
 */
public final class StatusesTest {
    private static final String[] PROMISED = {
        "tray 1 5 6", "write 1 3 4", "read 1 3 4", "pour 1 3 4 6 11",
        "empire 5 10", "empires 5 10", "many 5", "part 2 5", "hand 2 5", "spring 2 5", "copyKnown 1 3 4",
        "year 5 7", "make 5 9", "use 9", "teach 2 9", "note 2 9", "capture 2 9", "hire 5 7", "rule 5", "supply 5", "leak 2 9",
        "knowers 2", "knownBy 5", "sells 5 8", "loses 5", "fewest 8", "fewestSet 8", "bribe 8", "bribeSet 8", "frail 8",
        "frailPart 8", "safe 5", "lesson 5 8",
        "lostIn 2 8", "wholeFor 8", "knownIn 5", "storeIn 5", "pace 8", "jarsFor 5 8", "dies 2 8",
        "battle 1 3 4 5", "throwFirst 1 3 4 5", "jarsToWin 1 3 4 5 8",
        "tries 5", "worstLoss 8", "needed 1 3 4 5", "sure 1 3 4 5 8", "ask 1 3 4 5 8",
        "live 5 8", "lived 5 8", "mean 5 8", "mark 7", "back 8",
    };
    private static final Set<String> WITHOUT = Set.of("status", "fault", "feed", "top", "bottom");
    private static final int[] SIZES = {
        Integer.MIN_VALUE, Integer.MIN_VALUE + 1, -1073741824, -65536, -256, -9999, -2, -1, 0, 1, 2, 3, 4, 5, 6, 7, 8, 9, 10, 11,
        12, 13, 15, 16, 17, 20, 21, 30, 31, 59, 60, 61, 63, 64, 70, 99, 100, 127, 128, 200, 201, 255, 256, 300, 301, 899, 900, 901,
        998, 999, 1000, 9980, 9981, 9998, 9999, 10000, 65535, 65536, 1 << 24, 1073741823, 1073741824, 1073741825, 2147483641,
        Integer.MAX_VALUE - 1, Integer.MAX_VALUE,
    };
    private static final String[] EMPIRES = {
        "", "part a;", "hand a age 99;hand b age 0;", "life 10;part a fades 1;hand b age 10 knows a;spring c at 0 gives 99;",
        "part a written;part b written ways 9;hand c age 3;hand d age 4;jars 9999;",
        "part a;part b;hand c age 3 knows a;hand d age 4 knows a b;hand e age 5 knows b;jars 3;", Bench.CITY,
        "part a;part b;part c;part d;part e;part f;hand g age 1 knows a b;hand h age 1 knows b c;hand i age 1 knows c d;"
            + "hand j age 1 knows d e;hand k age 1 knows e f;hand l age 1 knows f a;hand m age 1;hand n age 1 knows a c e;"
            + "spring o at 1 gives 9;spring p at 2 gives 9;spring q at 3 gives 9;spring r at 4 gives 9;",
    };
    private static final String[] PLANS = {"", "any;", "loop 99;year 20;year 20;year 20;end;", "loop 99;any;use;make 1;end;stop;"};
    private static final int RUNS = 1500;
    private static final int CALLS = 380;

    private final Random draws;
    private final SeaFire x = new SeaFire();
    private static final Map<String, Set<Integer>> MET = new TreeMap<>();

    private StatusesTest(int run) {
        draws = new Random(run * 31L + 5);
    }

    private Object argument(Class<?> type) {
        if (type == boolean.class) {
            return draws.nextBoolean();
        }
        if (type == long.class) {
            return draws.nextInt(3) == 0 ? draws.nextLong() : draws.nextInt(3) == 0 ? draws.nextInt(2) : draws.nextInt(17);
        }
        return draws.nextInt(4) == 0 ? SIZES[draws.nextInt(SIZES.length)] : draws.nextInt(draws.nextBoolean() ? 4 : 13);
    }

    private void call(Method m) throws IllegalAccessException {
        Object[] args = Arrays.stream(m.getParameterTypes()).map(this::argument).toArray();
        int before = x.status();
        Object answer;
        try {
            answer = m.invoke(x, args);
        } catch (InvocationTargetException e) {
            Bench.due(m.getName() + Arrays.toString(args) + " threw " + e.getCause(), 1, 0);
            return;
        }
        int status = x.status();
        if (WITHOUT.contains(m.getName())) {
            Bench.due(m.getName() + " has no STATUS", status, before);
            return;
        }
        MET.computeIfAbsent(m.getName(), k -> new TreeSet<>()).add(status);
        if (status != 0) {
            long got = answer instanceof Boolean ? (Boolean) answer ? 1 : -1 : ((Number) answer).longValue();
            Bench.due(m.getName() + Arrays.toString(args) + " with STATUS " + status, got, SeaFire.NONE);
        }
    }

    private void setUp() {
        if (draws.nextInt(8) == 0) {
            return;
        }
        Bench.empire(x, EMPIRES[draws.nextInt(EMPIRES.length)]);
        Bench.empires(x, PLANS[draws.nextInt(PLANS.length)]);
        for (int i = 0; i < 2 && draws.nextBoolean(); i++) {
            x.live(i);
        }
        for (int tray = 0; tray < 3 && draws.nextInt(5) > 0; tray++) {
            x.tray(tray, draws.nextInt(2), draws.nextInt(61));
        }
    }

    private void go(List<Method> face) throws IllegalAccessException {
        setUp();
        // Each asks status() ahead and behind.
        for (int i = 0; i < CALLS / 3; i++) {
            call(face.get(draws.nextInt(face.size())));
        }
    }

    public static void main(String[] args) throws IllegalAccessException {
        List<Method> face = new ArrayList<>();
        for (Method m : SeaFire.class.getDeclaredMethods()) {
            if (Modifier.isPublic(m.getModifiers())) {
                face.add(m);
            }
        }
        // Reflection promises no order of its own.
        face.sort((a, b) -> a.getName().compareTo(b.getName()));
        Bench.due("calls of the document", PROMISED.length + WITHOUT.size(), face.size());
        for (int run = 0; run < RUNS; run++) {
            new StatusesTest(run).go(face);
        }
        for (String promise : PROMISED) {
            String[] words = promise.split(" ");
            Set<Integer> can = new TreeSet<>(Set.of(0));
            Arrays.stream(words).skip(1).map(Integer::valueOf).forEach(can::add);
            Set<Integer> met = MET.getOrDefault(words[0], Set.of());
            Bench.due(words[0] + " can have STATUS " + can + ", met were " + met, met.equals(can), true);
        }
        Bench.end();
    }
}
