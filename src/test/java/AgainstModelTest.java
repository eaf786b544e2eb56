import java.lang.reflect.InvocationTargetException;
import java.lang.reflect.Method;
import java.util.ArrayList;
import java.util.Arrays;
import java.util.HashMap;
import java.util.List;
import java.util.Map;
import java.util.Random;

/** Drawn runs of calls on the class and on the Model: each answer, STATUS and FRACTION must agree. */
public final class AgainstModelTest {
    private static final int RUNS = 4000;
    // What an object answers behind its 512th call is free; the longest move of a run takes some hundred.
    private static final int LAST_CALL = 512;
    private static final int LAST_MOVE = LAST_CALL - 120;
    private static final String[] QUESTIONS = {
        "many", "part", "hand", "spring", "knowers", "knownBy", "sells", "loses", "fewest", "fewestSet", "bribe",
        "bribeSet", "frail", "frailPart", "safe", "lesson", "lostIn", "wholeFor", "knownIn", "storeIn", "pace",
        "jarsFor", "dies", "tries", "worstLoss", "needed", "sure", "ask", "lived", "mean", "fault", "read",
        "copyKnown", "battle", "throwFirst", "jarsToWin",
    };
    private static final String[] DEEDS = {
        "year", "make", "use", "teach", "note", "capture", "hire", "rule", "supply", "leak", "live", "mark", "back",
        "tray", "write", "pour", "year", "teach", "note", "supply", "make", "use",
    };
    private static final String[] NAMES = {"a", "bb", "ccc", "dddd", "eeeee", "ffffff", "ggggggg", "hhhhhhhh", "iiiiiiiii"};

    private final Random draws;
    private final SeaFire own = new SeaFire();
    private final Model model = new Model();
    private final int run;
    private int used = 0;
    private static final Map<String, Method> OWN = methods(SeaFire.class);
    private static final Map<String, Method> MODEL = methods(Model.class);
    private static int wrongRuns = 0;
    private static final Map<String, Integer> SEEN = new HashMap<>();

    private AgainstModelTest(int run) {
        this.run = run;
        this.draws = new Random(run * 7919L + 3);
    }

    private static Map<String, Method> methods(Class<?> c) {
        Map<String, Method> all = new HashMap<>();
        for (Method m : c.getDeclaredMethods()) {
            if (!m.isSynthetic() && (c != Model.class || OWN.containsKey(m.getName()))
                    && !java.lang.reflect.Modifier.isPrivate(m.getModifiers())
                    && !java.lang.reflect.Modifier.isStatic(m.getModifiers())) {
                m.setAccessible(true);
                all.put(m.getName(), m);
            }
        }
        return all;
    }

    private static long asLong(Object answer) {
        return answer instanceof Boolean ? (Boolean) answer ? 1 : 0 : ((Number) answer).longValue();
    }

    private boolean call(String name, Object... args) throws Exception {
        Method method = OWN.get(name);
        long got = asLong(method.invoke(own, args));
        long want;
        int status = 0;
        try {
            want = asLong(MODEL.get(name).invoke(model, args));
        } catch (InvocationTargetException e) {
            if (!(e.getCause() instanceof Model.Refusal)) {
                throw e;
            }
            status = ((Model.Refusal) e.getCause()).status;
            want = method.getReturnType() == boolean.class ? 0 : -1;
        }
        boolean hasStatus = !name.equals("feed") && !name.equals("fault");
        boolean fractionToo = name.equals("battle") || name.equals("mean") || draws.nextInt(10) == 0;
        used += 1 + (hasStatus ? 1 : 0) + (fractionToo ? 2 : 0);
        SEEN.merge(name + (hasStatus ? " " + status : ""), 1, Integer::sum);
        boolean fine = got == want && (!hasStatus || own.status() == status)
                && (!fractionToo || own.top() == model.top.longValueExact() && own.bottom() == model.bottom.longValueExact())
                && used <= LAST_CALL;
        if (!fine) {
            System.out.println("run " + run + ", call " + used + ": " + name + Arrays.toString(args) + " answered " + got
                    + " with STATUS " + own.status() + ", FRACTION " + own.top() + " by " + own.bottom() + "; due is " + want
                    + " with STATUS " + status + ", FRACTION " + model.top + " by " + model.bottom);
        }
        return fine;
    }

    private int upTo(int most) {
        return draws.nextInt(most + 1);
    }

    /** Mostly within the bounds, now and then about or beyond them. */
    private int about(int least, int most) {
        switch (draws.nextInt(24)) {
            case 0: return least - 1;
            case 1: return most + 1;
            case 2: return least;
            case 3: return most;
            case 4: return draws.nextInt(8) == 0 ? draws.nextInt() : least;
            default: return least + draws.nextInt(most - least + 1);
        }
    }

    private String pick(String... texts) {
        return texts[draws.nextInt(texts.length)];
    }

    private String empireText() {
        StringBuilder text = new StringBuilder();
        List<String> parts = new ArrayList<>();
        List<String> free = new ArrayList<>();
        for (int i = 0; i < 20; i++) {
            free.add("" + (char) ('a' + i) + "xyzwvutsr".substring(0, draws.nextInt(draws.nextInt(12) == 0 ? 9 : 8)));
        }
        if (draws.nextBoolean()) {
            text.append("life ").append(10 + upTo(89)).append(";");
        }
        if (draws.nextBoolean()) {
            text.append("border ").append(upTo(999)).append(" ;\n");
        }
        if (draws.nextBoolean()) {
            text.append("jars ").append(draws.nextInt(5) == 0 ? 9990 + upTo(9) : upTo(20)).append("; ");
        }
        int partCount = upTo(6);
        for (int i = 0; i < partCount; i++) {
            String name = free.remove(0);
            parts.add(name);
            text.append("part ").append(name);
            text.append(draws.nextBoolean() ? " fades " + (1 + upTo(draws.nextBoolean() ? 9 : 98)) : "");
            text.append(draws.nextBoolean() ? " ways " + (1 + upTo(8)) : "");
            text.append(draws.nextInt(4) == 0 ? " written" : "").append(";");
        }
        int handCount = upTo(8);
        for (int i = 0; i < handCount; i++) {
            text.append("hand ").append(free.remove(0)).append(" age ").append(upTo(draws.nextBoolean() ? 99 : 30));
            text.append(draws.nextBoolean() ? " price " + upTo(draws.nextBoolean() ? 99 : 4) : "");
            text.append(draws.nextInt(5) > 0 ? " knows" : "");
            boolean knows = text.toString().endsWith("knows");
            for (String part : parts) {
                text.append(knows && draws.nextInt(5) < 2 ? " " + part : "");
            }
            text.append(";");
        }
        int springCount = upTo(4);
        for (int i = 0; i < springCount; i++) {
            text.append("spring ").append(free.remove(0)).append(" at ").append(upTo(999)).append(" gives ").append(upTo(99)).append(";");
        }
        return draws.nextInt(3) == 0 ? spoil(text.toString()) : text.toString();
    }

    private String named(boolean part) {
        List<String> names = part == (draws.nextInt(40) > 0) ? Model.partNames(model.st) : Model.handNames(model.st);
        return names.isEmpty() ? pick(NAMES) : names.get(draws.nextInt(names.size()));
    }

    private void steps(StringBuilder text, int depth, int many) {
        for (int i = 0; i < many; i++) {
            switch (draws.nextInt(depth >= 3 && draws.nextInt(30) > 0 ? 12 : 15)) {
                case 0:
                case 1: text.append("year ").append(1 + upTo(draws.nextBoolean() ? 19 : 3)); break;
                case 2: text.append("make ").append(1 + upTo(draws.nextInt(4) == 0 ? 998 : 9)); break;
                case 3:
                case 4: text.append("use"); break;
                case 5:
                case 6: text.append("teach ").append(named(false)).append(" ").append(named(false)).append(" ").append(named(true)); break;
                case 7: text.append("write ").append(named(true)); break;
                case 8: text.append("burn ").append(named(true)); break;
                case 9: text.append("capture ").append(named(false)); break;
                case 10: text.append("any"); break;
                case 11: text.append(draws.nextInt(6) == 0 ? "stop" : "any"); break;
                default:
                    text.append(draws.nextBoolean() ? "loop " + (1 + upTo(draws.nextInt(3) == 0 ? 98 : 4)) : "when "
                            + pick("whole", "known " + named(true), "jars " + pick("<", ">", "=") + upTo(20)));
                    text.append("; ");
                    steps(text, depth + 1, upTo(3));
                    text.append("end");
            }
            text.append(draws.nextBoolean() ? ";" : " ;\n");
        }
    }

    private String planText() {
        StringBuilder text = new StringBuilder();
        steps(text, 0, upTo(draws.nextInt(6) == 0 ? 34 : 9));
        return draws.nextInt(3) == 0 ? spoil(text.toString()) : text.toString();
    }

    /** One spot of a text is made otherwise. */
    private String spoil(String text) {
        int at = upTo(text.length());
        int to = Math.min(text.length(), at + upTo(8));
        String[] words = {"life", "border 7", "jars", "part", "fades 0", "ways 10", "written", "hand", "age 100", "knows",
            "spring", "at", "gives 100", "year 21", "end", "end;", "stop;", "when", "loop 0", "loop 2;", "whole", ";", "<",
            "=", " ", "!", "12345", "0007", "\t", "\u00e9", "abcdefghi", "axy", "bxyz", "A"};
        switch (draws.nextInt(5)) {
            case 0: return text.substring(0, at);
            case 1: return text.substring(0, at) + text.substring(to);
            case 2: return text.substring(0, at) + pick(words) + text.substring(to);
            case 3: return text.substring(0, at) + " " + pick(words) + " " + text.substring(at);
            default: return text + text.substring(at, to);
        }
    }

    private boolean feed(String text) throws Exception {
        byte[] bytes = Arrays.copyOf(Bench.bytes(text), (text.length() + 19) / 20 * 20);
        for (int i = 0; i < bytes.length; i += 20) {
            if (!call("feed", Bench.four(bytes, i), Bench.four(bytes, i + 4), Bench.four(bytes, i + 8),
                    Bench.four(bytes, i + 12), Bench.four(bytes, i + 16))) {
                return false;
            }
        }
        return true;
    }

    private boolean newEmpire() throws Exception {
        String text = empireText();
        return feed(text) && call("empire", draws.nextInt(30) == 0 ? about(0, 900) : text.length())
                && call("fault", 0) && call("fault", 1);
    }

    private boolean newPlan() throws Exception {
        String text = planText();
        return feed(text) && call("empires", draws.nextInt(30) == 0 ? about(0, 300) : text.length())
                && call("fault", 0) && call("fault", 1);
    }

    /** A TRAY of winds, or of what is told of HANDS. */
    private boolean newTray(boolean winds) throws Exception {
        int tray = upTo(3);
        int many = winds ? upTo(14) : 2 * upTo(draws.nextBoolean() ? 3 : 22);
        if (!call("tray", tray, upTo(3), many)) {
            return false;
        }
        for (int i = 0; i < many; i++) {
            int hands = 1 << model.st.hands.size();
            long v = winds ? upTo(16) : i % 2 == 1 ? upTo(1) : draws.nextInt(hands);
            if (!call("write", tray, i, draws.nextInt(200) == 0 ? draws.nextLong() : v)) {
                return false;
            }
        }
        return true;
    }

    private Object[] arguments(String name) {
        State bounds = new State(model.st.parts.size(), model.st.hands.size(), model.st.springs.size());
        switch (name) {
            case "many": return of(about(0, 12));
            case "part": return of(about(0, bounds.parts), about(0, 4));
            case "hand": return of(about(0, bounds.hands), about(0, 3));
            case "spring": return of(about(0, bounds.springs), about(0, 2));
            case "knowers":
            case "lostIn": return of(about(0, bounds.parts));
            case "knownBy":
            case "sells":
            case "loses": return of(about(0, (1 << model.st.hands.size()) - 1));
            case "safe": return of(about(0, 8), about(0, 8));
            case "lesson": return of(about(0, 8));
            case "knownIn":
            case "storeIn":
            case "jarsFor": return of(about(0, draws.nextBoolean() ? 200 : 20));
            case "dies":
            case "capture": return of(about(0, bounds.hands));
            case "tries":
            case "fault": return of(about(0, 1));
            case "needed":
            case "sure":
            case "ask": return of(about(0, 3), about(0, draws.nextBoolean() ? 3 : 20));
            case "lived": return of(about(0, 4));
            case "mean": return of(about(0, 9999), about(1, 20));
            case "read": return of(about(0, 3), about(0, 20));
            case "copyKnown": return of(about(0, 3));
            case "battle":
            case "throwFirst": return of(about(0, 3), about(0, 12), about(0, 12), about(0, draws.nextBoolean() ? 3 : 12));
            case "jarsToWin": return of(about(0, 3), about(0, 12), about(0, draws.nextBoolean() ? 3 : 12), about(0, 16));
            case "year": return of(about(1, draws.nextInt(6) == 0 ? 99 : 5));
            case "make": return of(about(1, draws.nextInt(6) == 0 ? 999 : 9));
            case "teach": return of(about(0, bounds.hands), about(0, bounds.hands), about(0, bounds.parts));
            case "note":
            case "leak": return of(about(0, bounds.parts), draws.nextBoolean());
            case "hire": return of(about(0, 99), about(0, 99));
            case "rule": return draws.nextBoolean() ? of(about(0, 1), about(10, 99)) : of(about(0, 1), about(0, 999));
            case "supply": return of(about(1, draws.nextInt(6) == 0 ? 9999 : 50), draws.nextBoolean());
            case "live": return of(about(0, 9999));
            case "tray": return of(about(0, 3), about(0, 3), about(0, 60));
            case "write": return new Object[] {about(0, 3), about(0, 20), draws.nextLong() >> draws.nextInt(64)};
            case "pour": return of(about(0, 3), about(0, 10), about(0, 3), about(0, 10), about(0, 10));
            default: return new Object[0];
        }
    }

    private record State(int parts, int hands, int springs) {
        State {
            parts = Math.max(0, parts - 1);
            hands = Math.max(0, hands - 1);
            springs = Math.max(0, springs - 1);
        }
    }

    private static Object[] of(Object... args) {
        return args;
    }

    private boolean oneMove() throws Exception {
        int draw = draws.nextInt(100);
        if (draw < 2) {
            return newEmpire();
        }
        if (draw < 7) {
            return newPlan();
        }
        if (draw < 10) {
            return newTray(draws.nextBoolean());
        }
        String name = draw < 35 ? pick(DEEDS) : pick(QUESTIONS);
        if (name.equals("capture") && draws.nextInt(3) > 0) {
            return true;
        }
        return call(name, arguments(name));
    }

    /** Two lives of 5,980 YEARS, the second not to its end: what is drawn then stands about YEAR 9,999. */
    private boolean lateYears() throws Exception {
        String text = "loop 99;year 20;year 20;year 20;end;";
        return feed(text) && call("empires", text.length()) && call("live", upTo(9999)) && call("live", upTo(9999))
                && call("lived", 0) && call("lived", 1) && call("year", 1 + upTo(25));
    }

    private void go() throws Exception {
        boolean fine = newEmpire() && (draws.nextInt(10) > 0 || lateYears()) && newPlan() && newTray(true);
        while (fine && used <= LAST_MOVE) {
            fine = oneMove();
        }
        if (!fine) {
            wrongRuns++;
        }
    }

    public static void main(String[] args) throws Exception {
        for (int run = 0; run < RUNS; run++) {
            new AgainstModelTest(run).go();
        }
        if (args.length > 0) {
            SEEN.entrySet().stream().sorted(Map.Entry.comparingByKey()).forEach(System.out::println);
        }
        System.out.println(RUNS + " runs, " + wrongRuns + " wrong");
        if (wrongRuns != 0) {
            System.exit(1);
        }
    }
}
