import java.math.BigInteger;
import java.util.ArrayDeque;
import java.util.ArrayList;
import java.util.Arrays;
import java.util.Deque;
import java.util.HashMap;
import java.util.HashSet;
import java.util.List;
import java.util.Map;
import java.util.Set;
import java.util.TreeSet;

/**
 * The document once more, written from its words alone and without a thought of speed: YEARS go by
 * one by one, sets are tried one by one, texts are read by recursion. The class is held against it.
 */
final class Model {
    static final Set<String> TAKEN_WORDS = new HashSet<>(Arrays.asList(
            "life", "border", "jars", "part", "fades", "ways", "written", "hand", "age", "price", "knows", "spring",
            "at", "gives", "year", "make", "use", "teach", "write", "burn", "capture", "any", "when", "known",
            "whole", "loop", "end", "stop"));

    static final class Part {
        String name;
        int fades = 30;
        int ways = 3;
        int rust;
        boolean written;
    }

    static final class Hand {
        String name;
        int age;
        int price = 10;
        int fate;
        Set<Integer> knows = new TreeSet<>();
    }

    static final class Spring {
        String name;
        int miles;
        int gives;
    }

    static final class Step {
        String word;
        List<Integer> numbers = new ArrayList<>();
        String test;
        List<Step> inside = new ArrayList<>();
    }

    static final class State {
        int life = 70;
        int border = 100;
        int jars;
        int year;
        int store;
        Set<Integer> enemy = new TreeSet<>();
        List<Part> parts = new ArrayList<>();
        List<Hand> hands = new ArrayList<>();
        List<Spring> springs = new ArrayList<>();
        List<Step> plan;
        int steps;

        State copy() {
            State c = new State();
            c.life = life;
            c.border = border;
            c.jars = jars;
            c.year = year;
            c.store = store;
            c.enemy.addAll(enemy);
            for (Part p : parts) {
                Part q = new Part();
                q.name = p.name;
                q.fades = p.fades;
                q.ways = p.ways;
                q.rust = p.rust;
                q.written = p.written;
                c.parts.add(q);
            }
            for (Hand h : hands) {
                Hand g = new Hand();
                g.name = h.name;
                g.age = h.age;
                g.price = h.price;
                g.fate = h.fate;
                g.knows.addAll(h.knows);
                c.hands.add(g);
            }
            c.springs.addAll(springs);
            c.plan = plan;
            c.steps = steps;
            return c;
        }

        boolean known(int part) {
            return parts.get(part).written || hands.stream().anyMatch(h -> h.fate == 0 && h.knows.contains(part));
        }

        Set<Integer> known() {
            Set<Integer> s = new TreeSet<>();
            for (int p = 0; p < parts.size(); p++) {
                if (known(p)) {
                    s.add(p);
                }
            }
            return s;
        }

        boolean whole() {
            return !parts.isEmpty() && known().size() == parts.size();
        }

        void oneYear(Set<Integer> died) {
            for (int h = 0; h < hands.size(); h++) {
                Hand hand = hands.get(h);
                if (hand.fate == 0 && ++hand.age >= life) {
                    hand.fate = 1;
                    died.add(h);
                }
            }
            for (Spring s : springs) {
                if (s.miles <= border) {
                    store = Math.min(9999, store + s.gives);
                }
            }
            for (int p = 0; p < parts.size(); p++) {
                Part part = parts.get(p);
                part.rust = Math.min(99, part.rust + 1);
                if (part.rust >= part.fades) {
                    for (Hand hand : hands) {
                        if (hand.fate == 0) {
                            hand.knows.remove(p);
                        }
                    }
                }
            }
            year++;
        }

        boolean make(int many) {
            if (!whole() || store < many) {
                return false;
            }
            store -= many;
            jars = Math.min(9999, jars + many);
            parts.forEach(p -> p.rust = 0);
            return true;
        }

        boolean use() {
            if (!whole() || jars == 0) {
                return false;
            }
            jars--;
            parts.forEach(p -> p.rust = 0);
            return true;
        }

        boolean teach(int from, int to, int part) {
            Hand teacher = hands.get(from);
            Hand pupil = hands.get(to);
            if (pupil.fate != 0 || pupil.knows.contains(part)) {
                return false;
            }
            if (from == to && !parts.get(part).written) {
                return false;
            }
            if (from != to && (teacher.fate != 0 || !teacher.knows.contains(part))) {
                return false;
            }
            pupil.knows.add(part);
            return true;
        }

        boolean note(int part, boolean written) {
            Part p = parts.get(part);
            if (p.written == written) {
                return false;
            }
            if (written && hands.stream().noneMatch(h -> h.fate == 0 && h.knows.contains(part))) {
                return false;
            }
            p.written = written;
            return true;
        }

        boolean capture(int hand) {
            Hand h = hands.get(hand);
            if (h.fate != 0) {
                return false;
            }
            h.fate = 2;
            enemy.addAll(h.knows);
            return true;
        }

        Set<Integer> knownBy(int set) {
            Set<Integer> s = new TreeSet<>();
            for (int h = 0; h < hands.size(); h++) {
                if ((set >> h & 1) == 1) {
                    s.addAll(hands.get(h).knows);
                }
            }
            return s;
        }

        boolean allLive(int set) {
            for (int h = 0; h < hands.size(); h++) {
                if ((set >> h & 1) == 1 && hands.get(h).fate != 0) {
                    return false;
                }
            }
            return true;
        }

        boolean canSell(int set) {
            return !parts.isEmpty() && allLive(set) && knownBy(set).size() == parts.size();
        }

        Set<Integer> loses(int set) {
            State then = copy();
            for (int h = 0; h < hands.size(); h++) {
                if ((set >> h & 1) == 1 && then.hands.get(h).fate == 0) {
                    then.hands.get(h).fate = 1;
                }
            }
            Set<Integer> lost = known();
            lost.removeAll(then.known());
            return lost;
        }

        List<Integer> sets(boolean livingAlone) {
            List<Integer> sets = new ArrayList<>();
            for (int set = 0; set < 1 << hands.size(); set++) {
                if (!livingAlone || allLive(set)) {
                    sets.add(set);
                }
            }
            return sets;
        }

        boolean safeFromSale(int k) {
            return sets(true).stream().noneMatch(s -> Integer.bitCount(s) <= k && canSell(s));
        }

        int price(int set) {
            int sum = 0;
            for (int h = 0; h < hands.size(); h++) {
                sum += (set >> h & 1) * hands.get(h).price;
            }
            return sum;
        }

        /** The fewest living knowers of one PART that is not WRITTEN; null without such a PART. */
        Integer thinnest() {
            Integer least = null;
            for (int p = 0; p < parts.size(); p++) {
                final int part = p;
                int count = (int) hands.stream().filter(h -> h.fate == 0 && h.knows.contains(part)).count();
                if (!parts.get(p).written && (least == null || count < least)) {
                    least = count;
                }
            }
            return least;
        }

        BigInteger tries(Set<Integer> has) {
            BigInteger product = BigInteger.ONE;
            for (int p = 0; p < parts.size(); p++) {
                if (!has.contains(p)) {
                    product = product.multiply(BigInteger.valueOf(parts.get(p).ways));
                }
            }
            return product;
        }
    }

    /** The end of a reading, or of a life. */
    static final class Halt extends RuntimeException {
        private static final long serialVersionUID = 1;
        final int kind;
        final int place;

        Halt(int kind, int place) {
            super(null, null, false, false);
            this.kind = kind;
            this.place = place;
        }
    }

    /** A call that is refused. */
    static final class Refusal extends RuntimeException {
        private static final long serialVersionUID = 1;
        final int status;

        Refusal(int status) {
            super(null, null, false, false);
            this.status = status;
        }
    }

    State st = new State();
    final Deque<State> marks = new ArrayDeque<>();
    final long[][] trays = new long[4][];
    final int[] sorts = new int[4];
    final StringBuilder tape = new StringBuilder();
    int faultKind = -1;
    int faultPlace = -1;
    int[] livedTold;
    BigInteger top = BigInteger.ZERO;
    BigInteger bottom = BigInteger.ONE;

    // ---- reading

    final class Text {
        final String text;
        int at;
        int place;
        String token;

        Text(String text) {
            this.text = text;
            next();
        }

        void next() {
            while (at < text.length() && " \n".indexOf(text.charAt(at)) >= 0) {
                at++;
            }
            place = at;
            int end = at;
            while (end < text.length() && isLower(text.charAt(end))) {
                end++;
            }
            if (end == at) {
                while (end < text.length() && isDigit(text.charAt(end))) {
                    end++;
                }
            }
            if (end == at && at < text.length()) {
                end++;
            }
            token = text.substring(at, end);
            at = end;
        }

        boolean isLower(char c) {
            return 'a' <= c && c <= 'z';
        }

        boolean isDigit(char c) {
            return '0' <= c && c <= '9';
        }

        boolean noToken() {
            return !token.isEmpty() && !token.matches("[a-z]+|[0-9]{1,4}|[;<>=]");
        }

        Halt fault(int kind) {
            return new Halt(noToken() ? 1 : kind, place);
        }

        void word(String wanted) {
            if (!token.equals(wanted)) {
                throw fault(2);
            }
            next();
        }

        boolean maybe(String wanted) {
            if (!token.equals(wanted)) {
                return false;
            }
            next();
            return true;
        }

        int number(int least, int most) {
            if (!token.matches("[0-9]{1,4}")) {
                throw fault(2);
            }
            int v = Integer.parseInt(token);
            if (v < least || v > most) {
                throw fault(4);
            }
            next();
            return v;
        }

        String name() {
            if (!token.matches("[a-z]{1,8}") || TAKEN_WORDS.contains(token)) {
                throw fault(2);
            }
            return token;
        }

        int named(List<String> names) {
            int i = names.indexOf(name());
            if (i < 0) {
                throw fault(3);
            }
            next();
            return i;
        }
    }

    static List<String> partNames(State s) {
        List<String> names = new ArrayList<>();
        s.parts.forEach(p -> names.add(p.name));
        return names;
    }

    static List<String> handNames(State s) {
        List<String> names = new ArrayList<>();
        s.hands.forEach(h -> names.add(h.name));
        return names;
    }

    static String newName(Text in, State s) {
        String name = in.name();
        List<String> all = partNames(s);
        all.addAll(handNames(s));
        s.springs.forEach(p -> all.add(p.name));
        if (all.contains(name)) {
            throw in.fault(3);
        }
        in.next();
        return name;
    }

    State readEmpire(String text) {
        Text in = new Text(text);
        State s = new State();
        Set<String> told = new HashSet<>();
        while (!in.token.isEmpty()) {
            String word = in.token;
            switch (word) {
                case "life":
                case "border":
                case "jars":
                    if (!told.add(word)) {
                        throw in.fault(5);
                    }
                    in.next();
                    if (word.equals("life")) {
                        s.life = in.number(10, 99);
                    } else if (word.equals("border")) {
                        s.border = in.number(0, 999);
                    } else {
                        s.jars = in.number(0, 9999);
                    }
                    break;
                case "part":
                    readPart(in, s);
                    break;
                case "hand":
                    readHand(in, s);
                    break;
                case "spring":
                    readSpring(in, s);
                    break;
                default:
                    throw in.fault(2);
            }
            in.word(";");
        }
        return s;
    }

    private static void readPart(Text in, State s) {
        if (s.parts.size() == 6) {
            throw in.fault(6);
        }
        in.next();
        Part p = new Part();
        p.name = newName(in, s);
        if (in.maybe("fades")) {
            p.fades = in.number(1, 99);
        }
        if (in.maybe("ways")) {
            p.ways = in.number(1, 9);
        }
        p.written = in.maybe("written");
        s.parts.add(p);
    }

    private static void readHand(Text in, State s) {
        if (s.hands.size() == 8) {
            throw in.fault(6);
        }
        in.next();
        Hand h = new Hand();
        h.name = newName(in, s);
        in.word("age");
        h.age = in.number(0, 99);
        if (in.maybe("price")) {
            h.price = in.number(0, 99);
        }
        if (in.maybe("knows")) {
            while (!in.token.equals(";")) {
                int part = partNames(s).indexOf(in.name());
                if (part < 0) {
                    throw in.fault(3);
                }
                if (!h.knows.add(part)) {
                    throw in.fault(5);
                }
                in.next();
            }
        }
        s.hands.add(h);
    }

    private static void readSpring(Text in, State s) {
        if (s.springs.size() == 4) {
            throw in.fault(6);
        }
        in.next();
        Spring p = new Spring();
        p.name = newName(in, s);
        in.word("at");
        p.miles = in.number(0, 999);
        in.word("gives");
        p.gives = in.number(0, 99);
        s.springs.add(p);
    }

    private int readSteps;

    private List<Step> readSteps(Text in, int depth) {
        List<Step> steps = new ArrayList<>();
        while (!in.token.isEmpty() && !(depth > 0 && in.token.equals("end"))) {
            steps.add(readStep(in, depth));
        }
        if (depth > 0) {
            in.word("end");
            in.word(";");
        }
        return steps;
    }

    private Step readStep(Text in, int depth) {
        Step step = new Step();
        step.word = in.token;
        if (!Set.of("year", "make", "use", "teach", "write", "burn", "capture", "any", "when", "loop", "stop").contains(step.word)) {
            throw in.fault(2);
        }
        boolean block = step.word.equals("when") || step.word.equals("loop");
        if (++readSteps > 30) {
            throw in.fault(6);
        }
        if (block && depth == 3) {
            throw in.fault(7);
        }
        in.next();
        switch (step.word) {
            case "year": step.numbers.add(in.number(1, 20)); break;
            case "make": step.numbers.add(in.number(1, 999)); break;
            case "loop": step.numbers.add(in.number(1, 99)); break;
            case "teach":
                step.numbers.add(in.named(handNames(st)));
                step.numbers.add(in.named(handNames(st)));
                step.numbers.add(in.named(partNames(st)));
                break;
            case "write":
            case "burn": step.numbers.add(in.named(partNames(st))); break;
            case "capture": step.numbers.add(in.named(handNames(st))); break;
            case "when":
                step.test = in.token;
                if (in.maybe("known")) {
                    step.numbers.add(in.named(partNames(st)));
                } else if (in.maybe("jars")) {
                    step.test = in.token;
                    if (!in.token.matches("[<>=]")) {
                        throw in.fault(2);
                    }
                    in.next();
                    step.numbers.add(in.number(0, 9999));
                } else {
                    in.word("whole");
                }
                break;
            default:
        }
        in.word(";");
        if (block) {
            step.inside = readSteps(in, depth + 1);
        }
        return step;
    }

    // ---- lives

    static final class Course {
        int done;
        int missed;
        int years;
        int made;
        int gone;
        int left;
        long s;

        void go(State st, List<Step> steps) {
            for (Step step : steps) {
                if (done == 300) {
                    left = 1;
                    throw new Halt(0, 0);
                }
                done++;
                if (step.word.equals("stop")) {
                    throw new Halt(0, 0);
                } else if (step.word.equals("loop")) {
                    for (int i = 0; i < step.numbers.get(0); i++) {
                        go(st, step.inside);
                    }
                } else if (step.word.equals("when")) {
                    if (holds(st, step)) {
                        go(st, step.inside);
                    }
                } else if (!deed(st, step)) {
                    missed++;
                }
            }
        }

        static boolean holds(State st, Step step) {
            switch (step.test) {
                case "known": return st.known(step.numbers.get(0));
                case "whole": return st.whole();
                case "<": return st.jars < step.numbers.get(0);
                case ">": return st.jars > step.numbers.get(0);
                default: return st.jars == step.numbers.get(0);
            }
        }

        boolean deed(State st, Step step) {
            List<Integer> n = step.numbers;
            switch (step.word) {
                case "year":
                    if (st.year + n.get(0) > 9999) {
                        return false;
                    }
                    for (int i = 0; i < n.get(0); i++) {
                        Set<Integer> died = new HashSet<>();
                        st.oneYear(died);
                        gone += died.size();
                        years++;
                    }
                    return true;
                case "make":
                    if (!st.make(n.get(0))) {
                        return false;
                    }
                    made += n.get(0);
                    return true;
                case "use": return st.use();
                case "teach": return st.teach(n.get(0), n.get(1), n.get(2));
                case "write": return st.note(n.get(0), true);
                case "burn": return st.note(n.get(0), false);
                case "capture": return take(st, n.get(0));
                default:
                    if (st.hands.isEmpty()) {
                        return false;
                    }
                    s = (s * 2971 + 10753) % 65536;
                    return take(st, (int) (s / 8 % st.hands.size()));
            }
        }

        boolean take(State st, int hand) {
            boolean taken = st.capture(hand);
            gone += taken ? 1 : 0;
            return taken;
        }
    }

    static Course course(State st, int seed) {
        Course c = new Course();
        c.s = seed;
        try {
            c.go(st, st.plan);
        } catch (Halt h) {
            return c;
        }
        return c;
    }

    // ---- the calls

    static void check(boolean fine, int status) {
        if (!fine) {
            throw new Refusal(status);
        }
    }

    static int number(Set<Integer> set) {
        int n = 0;
        for (int i : set) {
            n |= 1 << i;
        }
        return n;
    }

    void checkTray(int tray) {
        check(tray >= 0 && tray <= 3, 1);
        check(trays[tray] != null, 3);
    }

    void checkPart(int part) {
        check(part >= 0 && part < st.parts.size(), 2);
    }

    void checkHand(int hand) {
        check(hand >= 0 && hand < st.hands.size(), 2);
    }

    void checkSet(long set) {
        check(set >= 0 && set < 1L << st.hands.size(), 5);
    }

    void fraction(BigInteger a, BigInteger b) {
        BigInteger g = a.gcd(b);
        top = a.divide(g);
        bottom = b.divide(g);
    }

    boolean tray(int tray, int sort, int many) {
        check(tray >= 0 && tray <= 3 && sort >= 0 && sort <= 3, 1);
        check(many <= 60, 5);
        check(many >= 0, 6);
        trays[tray] = new long[many];
        sorts[tray] = sort;
        return true;
    }

    private long cut(int tray, long v) {
        int bits = 8 << sorts[tray];
        return v << 64 - bits >> 64 - bits;
    }

    boolean write(int tray, int place, long v) {
        checkTray(tray);
        check(place >= 0 && place < trays[tray].length, 4);
        trays[tray][place] = cut(tray, v);
        return true;
    }

    long read(int tray, int place) {
        checkTray(tray);
        check(place >= 0 && place < trays[tray].length, 4);
        return trays[tray][place];
    }

    boolean pour(int tray, int i, int to, int j, int many) {
        check(tray >= 0 && tray <= 3 && to >= 0 && to <= 3, 1);
        check(trays[tray] != null && trays[to] != null, 3);
        check(sorts[tray] == sorts[to], 11);
        check(many >= 0, 6);
        check(i >= 0 && (long) i + many <= trays[tray].length, 4);
        check(j >= 0 && (long) j + many <= trays[to].length, 4);
        long[] were = trays[tray].clone();
        for (int k = 0; k < many; k++) {
            trays[to][j + k] = were[i + k];
        }
        return true;
    }

    int feed(int a, int b, int c, int d, int e) {
        if (tape.length() + 20 > 900) {
            return -1;
        }
        for (int four : new int[] {a, b, c, d, e}) {
            for (int shift = 24; shift >= 0; shift -= 8) {
                tape.append((char) (four >>> shift & 255));
            }
        }
        return tape.length();
    }

    int empire(int n) {
        check(n >= 0 && n <= tape.length(), 5);
        String text = tape.substring(0, n);
        tape.setLength(0);
        try {
            st = readEmpire(text);
        } catch (Halt f) {
            faultKind = f.kind;
            faultPlace = f.place;
            throw new Refusal(10);
        }
        faultKind = 0;
        faultPlace = -1;
        return st.hands.size();
    }

    int empires(int n) {
        check(n >= 0 && n <= tape.length() && n <= 300, 5);
        String text = tape.substring(0, n);
        tape.setLength(0);
        readSteps = 0;
        try {
            st.plan = readSteps(new Text(text), 0);
            st.steps = readSteps;
        } catch (Halt f) {
            faultKind = f.kind;
            faultPlace = f.place;
            throw new Refusal(10);
        }
        faultKind = 0;
        faultPlace = -1;
        return st.steps;
    }

    int fault(int what) {
        return what == 0 ? faultKind : what == 1 ? faultPlace : -1;
    }

    int many(int what) {
        check(what >= 0 && what <= 12, 5);
        Set<Integer> written = new TreeSet<>();
        Set<Integer> living = new TreeSet<>();
        for (int p = 0; p < st.parts.size(); p++) {
            if (st.parts.get(p).written) {
                written.add(p);
            }
        }
        for (int h = 0; h < st.hands.size(); h++) {
            if (st.hands.get(h).fate == 0) {
                living.add(h);
            }
        }
        return new int[] {st.parts.size(), st.hands.size(), st.springs.size(), st.life, st.border, st.jars, st.year,
            st.store, number(living), number(st.known()), number(written), number(st.enemy), st.whole() ? 1 : 0}[what];
    }

    int part(int part, int what) {
        checkPart(part);
        check(what >= 0 && what <= 4, 5);
        Part p = st.parts.get(part);
        return new int[] {p.fades, p.ways, p.written ? 1 : 0, p.rust, knowers(part)}[what];
    }

    int hand(int hand, int what) {
        checkHand(hand);
        check(what >= 0 && what <= 3, 5);
        Hand h = st.hands.get(hand);
        return new int[] {h.age, h.price, number(h.knows), h.fate}[what];
    }

    int spring(int spring, int what) {
        check(spring >= 0 && spring < st.springs.size(), 2);
        check(what >= 0 && what <= 2, 5);
        Spring s = st.springs.get(spring);
        return new int[] {s.miles, s.gives, s.miles <= st.border ? 1 : 0}[what];
    }

    int copyKnown(int tray) {
        checkTray(tray);
        check(trays[tray].length >= st.hands.size(), 4);
        for (int h = 0; h < st.hands.size(); h++) {
            trays[tray][h] = number(st.hands.get(h).knows);
        }
        return st.hands.size();
    }

    int year(int years) {
        check(years >= 1 && years <= 99, 5);
        check(st.year + years <= 9999, 7);
        Set<Integer> died = new TreeSet<>();
        for (int i = 0; i < years; i++) {
            st.oneYear(died);
        }
        return number(died);
    }

    int make(int jars) {
        check(jars >= 1 && jars <= 999, 5);
        check(st.make(jars), 9);
        return st.jars;
    }

    int use() {
        check(st.use(), 9);
        return st.jars;
    }

    int teach(int hand, int other, int part) {
        checkHand(hand);
        checkHand(other);
        checkPart(part);
        check(st.teach(hand, other, part), 9);
        return number(st.hands.get(other).knows);
    }

    boolean note(int part, boolean written) {
        checkPart(part);
        check(st.note(part, written), 9);
        return true;
    }

    int capture(int hand) {
        checkHand(hand);
        check(st.capture(hand), 9);
        return number(st.enemy);
    }

    int hire(int age, int price) {
        check(age >= 0 && age <= 99 && price >= 0 && price <= 99, 5);
        check(st.hands.size() < 8, 7);
        Hand h = new Hand();
        h.name = "";
        h.age = age;
        h.price = price;
        st.hands.add(h);
        return st.hands.size() - 1;
    }

    boolean rule(int what, int much) {
        check(what == 0 || what == 1, 5);
        if (what == 0) {
            check(much >= 10 && much <= 99, 5);
            st.life = much;
        } else {
            check(much >= 0 && much <= 999, 5);
            st.border = much;
        }
        return true;
    }

    int supply(int much, boolean store) {
        check(much >= 1 && much <= 9999, 5);
        int now = Math.min(9999, much + (store ? st.store : st.jars));
        if (store) {
            st.store = now;
        } else {
            st.jars = now;
        }
        return now;
    }

    boolean leak(int part, boolean has) {
        checkPart(part);
        check(has ? st.enemy.add(part) : st.enemy.remove(part), 9);
        return true;
    }

    int knowers(int part) {
        checkPart(part);
        Set<Integer> s = new TreeSet<>();
        for (int h = 0; h < st.hands.size(); h++) {
            if (st.hands.get(h).fate == 0 && st.hands.get(h).knows.contains(part)) {
                s.add(h);
            }
        }
        return number(s);
    }

    int knownBy(int hands) {
        checkSet(hands);
        return number(st.knownBy(hands));
    }

    int sells(int hands) {
        checkSet(hands);
        check(st.allLive(hands), 5);
        check(!st.parts.isEmpty(), 8);
        return st.canSell(hands) ? 1 : 0;
    }

    int loses(int hands) {
        checkSet(hands);
        return number(st.loses(hands));
    }

    int fewest() {
        return Integer.bitCount(fewestSet());
    }

    int fewestSet() {
        return st.sets(true).stream().filter(st::canSell)
                .min((a, b) -> Integer.bitCount(a) != Integer.bitCount(b)
                        ? Integer.bitCount(a) - Integer.bitCount(b) : a - b)
                .orElseThrow(() -> new Refusal(8));
    }

    int bribe() {
        return st.price(bribeSet());
    }

    int bribeSet() {
        return st.sets(true).stream().filter(st::canSell)
                .min((a, b) -> st.price(a) != st.price(b) ? st.price(a) - st.price(b)
                        : Integer.bitCount(a) != Integer.bitCount(b) ? Integer.bitCount(a) - Integer.bitCount(b) : a - b)
                .orElseThrow(() -> new Refusal(8));
    }

    int frail() {
        return st.sets(true).stream().filter(s -> !st.loses(s).isEmpty())
                .mapToInt(Integer::bitCount).min().orElseThrow(() -> new Refusal(8));
    }

    int frailPart() {
        int deaths = frail();
        Set<Integer> parts = new TreeSet<>();
        for (int set : st.sets(true)) {
            if (Integer.bitCount(set) == deaths) {
                parts.addAll(st.loses(set));
            }
        }
        return parts.iterator().next();
    }

    int safe(int k, int d) {
        check(k >= 0 && k <= 8 && d >= 0 && d <= 8, 5);
        boolean kept = st.sets(true).stream().noneMatch(s -> Integer.bitCount(s) <= d && !st.loses(s).isEmpty());
        return kept && st.safeFromSale(k) ? 1 : 0;
    }

    int lesson(int k) {
        check(k >= 0 && k <= 8, 5);
        Integer best = st.thinnest();
        int lesson = -1;
        for (int h = 0; h < st.hands.size(); h++) {
            for (int p = 0; p < st.parts.size(); p++) {
                if (st.hands.get(h).fate != 0 || st.hands.get(h).knows.contains(p) || !st.known(p)) {
                    continue;
                }
                State then = st.copy();
                then.hands.get(h).knows.add(p);
                if (best != null && then.safeFromSale(k) && then.thinnest() > best) {
                    best = then.thinnest();
                    lesson = 10 * h + p;
                }
            }
        }
        check(lesson >= 0, 8);
        return lesson;
    }

    private State after(int years) {
        State then = st.copy();
        for (int i = 0; i < years; i++) {
            then.oneYear(new HashSet<>());
        }
        return then;
    }

    int lostIn(int part) {
        checkPart(part);
        State then = st.copy();
        for (int y = 0; y <= 200; y++) {
            if (!then.known(part)) {
                return y;
            }
            then.oneYear(new HashSet<>());
        }
        throw new Refusal(8);
    }

    int wholeFor() {
        State then = st.copy();
        for (int y = 0; y <= 200; y++) {
            if (!then.whole()) {
                return y;
            }
            then.oneYear(new HashSet<>());
        }
        throw new Refusal(8);
    }

    int knownIn(int years) {
        check(years >= 0 && years <= 200, 5);
        return number(after(years).known());
    }

    int storeIn(int years) {
        check(years >= 0 && years <= 200, 5);
        return after(years).store;
    }

    int pace() {
        return st.parts.stream().mapToInt(p -> p.fades).min().orElseThrow(() -> new Refusal(8)) - 1;
    }

    /** The fewest USES by all ways to USE or not ahead of each YEAR; by the YEARS since the last one. */
    int jarsFor(int years) {
        check(years >= 0 && years <= 200, 5);
        check(!st.parts.isEmpty(), 8);
        Map<Integer, Integer> uses = new HashMap<>();
        final int never = -1;
        uses.put(never, 0);
        for (int y = 0; y < years; y++) {
            Map<Integer, Integer> next = new HashMap<>();
            final int gone = y;
            uses.forEach((since, used) -> {
                if (!fadesNext(since == never ? gone : since, since == never)) {
                    next.merge(since == never ? never : since + 1, used, Math::min);
                }
                if (!fadesNext(0, false)) {
                    next.merge(1, used + 1, Math::min);
                }
            });
            uses = next;
        }
        return uses.values().stream().mapToInt(u -> u).min().orElseThrow(() -> new Refusal(8));
    }

    private boolean fadesNext(int since, boolean rustCounts) {
        return st.parts.stream().anyMatch(p -> since + (rustCounts ? p.rust : 0) + 1 >= p.fades);
    }

    int dies(int hand) {
        checkHand(hand);
        check(st.hands.get(hand).fate == 0, 8);
        State then = st.copy();
        for (int y = 1; ; y++) {
            then.oneYear(new HashSet<>());
            if (then.hands.get(hand).fate != 0) {
                return y;
            }
        }
    }

    private void checkBattle(int tray, int n, int jars, int ships) {
        checkTray(tray);
        check(n <= trays[tray].length, 4);
        check(n >= 0 && n <= 12 && jars >= 0 && jars <= 12 && ships >= 0 && ships <= 12, 5);
        for (int i = 0; i < n; i++) {
            check(trays[tray][i] >= 0 && trays[tray][i] <= 16, 5);
        }
    }

    private final Map<String, BigInteger> fought = new HashMap<>();

    /** In parts of 16 to the turns that are left. */
    private BigInteger odds(long[] winds, int n, int turn, int jars, int ships) {
        if (turn == n) {
            return ships == 0 ? BigInteger.ONE : BigInteger.ZERO;
        }
        String key = turn + " " + jars + " " + ships;
        BigInteger odds = fought.get(key);
        if (odds == null) {
            odds = kept(winds, n, turn, jars, ships);
            if (jars > 0) {
                odds = odds.max(thrown(winds, n, turn, jars, ships));
            }
            fought.put(key, odds);
        }
        return odds;
    }

    private BigInteger kept(long[] winds, int n, int turn, int jars, int ships) {
        return odds(winds, n, turn + 1, jars, ships).shiftLeft(4);
    }

    private BigInteger thrown(long[] winds, int n, int turn, int jars, int ships) {
        BigInteger hit = odds(winds, n, turn + 1, jars - 1, Math.max(0, ships - 1));
        BigInteger miss = odds(winds, n, turn + 1, jars - 1, ships);
        return hit.multiply(BigInteger.valueOf(winds[turn])).add(miss.multiply(BigInteger.valueOf(16 - winds[turn])));
    }

    boolean battle(int tray, int n, int jars, int ships) {
        checkBattle(tray, n, jars, ships);
        fought.clear();
        fraction(odds(trays[tray], n, 0, jars, ships), BigInteger.ONE.shiftLeft(4 * n));
        return true;
    }

    int throwFirst(int tray, int n, int jars, int ships) {
        checkBattle(tray, n, jars, ships);
        check(n > 0, 5);
        fought.clear();
        return jars > 0 && thrown(trays[tray], n, 0, jars, ships).compareTo(kept(trays[tray], n, 0, jars, ships)) > 0 ? 1 : 0;
    }

    int jarsToWin(int tray, int n, int ships, int sixteenths) {
        checkBattle(tray, n, 0, ships);
        check(sixteenths >= 0 && sixteenths <= 16, 5);
        fought.clear();
        for (int jars = 0; jars <= 12; jars++) {
            BigInteger odds = odds(trays[tray], n, 0, jars, ships).shiftLeft(4);
            if (odds.compareTo(BigInteger.valueOf(sixteenths).shiftLeft(4 * n)) >= 0) {
                return jars;
            }
        }
        throw new Refusal(8);
    }

    long tries(int how) {
        check(how == 0 || how == 1, 5);
        if (how == 1) {
            return st.tries(st.enemy).longValueExact();
        }
        long sum = 0;
        for (int p = 0; p < st.parts.size(); p++) {
            sum += st.enemy.contains(p) ? 0 : st.parts.get(p).ways;
        }
        return sum;
    }

    int worstLoss() {
        int worst = -1;
        BigInteger least = null;
        for (int h = 0; h < st.hands.size(); h++) {
            State then = st.copy();
            if (then.capture(h) && (least == null || then.tries(then.enemy).compareTo(least) < 0)) {
                worst = h;
                least = then.tries(then.enemy);
            }
        }
        check(worst >= 0, 8);
        return worst;
    }

    private List<Integer> ways(int tray, int n) {
        checkTray(tray);
        check(2L * n <= trays[tray].length, 4);
        check(n >= 0 && n <= 20, 5);
        for (int i = 0; i < n; i++) {
            checkSet(trays[tray][2 * i]);
            check(trays[tray][2 * i + 1] == 0 || trays[tray][2 * i + 1] == 1, 5);
        }
        List<Integer> ways = new ArrayList<>();
        for (int need = 1; need < 1 << st.parts.size(); need++) {
            boolean fits = true;
            for (int i = 0; i < n; i++) {
                boolean could = (number(st.knownBy((int) trays[tray][2 * i])) & need) == need;
                fits &= could == (trays[tray][2 * i + 1] == 1);
            }
            if (fits) {
                ways.add(need);
            }
        }
        return ways;
    }

    int needed(int tray, int n) {
        return ways(tray, n).size();
    }

    int sure(int tray, int n) {
        return ways(tray, n).stream().reduce((a, b) -> a & b).orElseThrow(() -> new Refusal(8));
    }

    int ask(int tray, int n) {
        List<Integer> ways = ways(tray, n);
        check(ways.size() >= 2 && !st.hands.isEmpty(), 8);
        int best = -1;
        int least = Integer.MAX_VALUE;
        for (int set = 1; set < 1 << st.hands.size(); set++) {
            int known = number(st.knownBy(set));
            int could = (int) ways.stream().filter(w -> (w & known) == w).count();
            int greater = Math.max(could, ways.size() - could);
            if (greater < least) {
                least = greater;
                best = set;
            }
        }
        return best;
    }

    int live(int seed) {
        check(seed >= 0 && seed <= 9999, 5);
        check(st.plan != null, 8);
        Course c = course(st, seed);
        livedTold = new int[] {c.missed, c.years, c.made, c.gone, c.left};
        return c.done;
    }

    int lived(int what) {
        check(what >= 0 && what <= 4, 5);
        check(livedTold != null, 8);
        return livedTold[what];
    }

    boolean mean(int seed, int many) {
        check(seed >= 0 && seed <= 9999 && many >= 1 && many <= 20 && seed + many - 1 <= 9999, 5);
        check(st.plan != null, 8);
        int sum = 0;
        for (int i = 0; i < many; i++) {
            State then = st.copy();
            course(then, seed + i);
            sum += then.known().size();
        }
        fraction(BigInteger.valueOf(sum), BigInteger.valueOf(many));
        return true;
    }

    int mark() {
        check(marks.size() < 3, 7);
        marks.push(st.copy());
        return marks.size();
    }

    int back() {
        check(!marks.isEmpty(), 8);
        st = marks.pop();
        return marks.size();
    }
}
