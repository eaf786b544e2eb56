/** A craft that is known in parts: who knows it, who can sell it, when it is lost. */
public final class SeaFire {
    public static final int NONE = -1;

    // What STATUS tells of a call.
    private static final int FINE = 0;
    private static final int NO_TRAY = 1;
    private static final int NO_SUCH = 2;
    private static final int MISSING = 3;
    private static final int NO_PLACE = 4;
    private static final int BAD_NUMBER = 5;
    private static final int BELOW_ZERO = 6;
    private static final int TOO_MANY = 7;
    private static final int NOTHING = 8;
    private static final int CANNOT_BE = 9;
    private static final int FAULTY = 10;
    private static final int UNLIKE_SORTS = 11;

    private static final int TRAYS = 4;
    private static final int SORTS = 4;
    private static final int TRAY_ROOM = 60;
    private static final int TAPE_ROOM = 900;
    private static final int FEED_BYTES = 20;
    private static final int PLAN_BYTES = 300;

    private static final int MAX_PARTS = 6;
    private static final int MAX_HANDS = 8;
    private static final int MAX_SPRINGS = 4;
    private static final int MAX_MARKS = 3;
    private static final int MOST_JARS = 9999;
    private static final int LAST_YEAR = 9999;
    private static final int MOST_RUST = 99;
    private static final int FORESIGHT = 200;

    private static final int MAX_STEPS = 30;
    private static final int MAX_DEPTH = 3;
    // Each end belongs to one STEP, so ends can at most double the rows.
    private static final int MAX_ROWS = 2 * MAX_STEPS;
    private static final int MOST_STEPS_DONE = 300;
    private static final int LAST_SEED = 9999;

    private static final int MOST_TURNS = 12;
    private static final int MOST_THROWN = 12;
    private static final int SIXTEEN = 16;
    private static final int MOST_TOLD = 20;
    // At p: bit w stands for each set w of PARTS that PART p is in.
    private static final long[] SETS_WITH = {
        0xAAAAAAAAAAAAAAAAL, 0xCCCCCCCCCCCCCCCCL, 0xF0F0F0F0F0F0F0F0L,
        0xFF00FF00FF00FF00L, 0xFFFF0000FFFF0000L, 0xFFFFFFFF00000000L,
    };
    private static final long ALL_BUT_THE_EMPTY_SET = ~1L;

    // The fates of a HAND.
    private static final int LIVES = 0;
    private static final int DEAD = 1;
    private static final int CAPTURED = 2;

    // The places of the words in Reader.KEYWORDS.
    private static final int LIFE = 0;
    private static final int BORDER = 1;
    private static final int JARS = 2;
    private static final int PART = 3;
    private static final int FADES = 4;
    private static final int WAYS = 5;
    private static final int WRITTEN = 6;
    private static final int HAND = 7;
    private static final int AGE = 8;
    private static final int PRICE = 9;
    private static final int KNOWS = 10;
    private static final int SPRING = 11;
    private static final int AT = 12;
    private static final int GIVES = 13;
    private static final int YEAR = 14;
    private static final int MAKE = 15;
    private static final int USE = 16;
    private static final int TEACH = 17;
    private static final int WRITE = 18;
    private static final int BURN = 19;
    private static final int CAPTURE = 20;
    private static final int ANY = 21;
    private static final int WHEN = 22;
    private static final int KNOWN = 23;
    private static final int WHOLE = 24;
    private static final int LOOP = 25;
    private static final int END = 26;
    private static final int STOP = 27;
    private static final int KEYWORD_COUNT = 28;

    // The kinds of FAULT in a text.
    private static final int NO_TOKEN = 1;
    private static final int MISPLACED = 2;
    private static final int WRONG_NAME = 3;
    private static final int WRONG_NUMBER = 4;
    private static final int TOLD_TWICE = 5;
    private static final int ONE_MORE = 6;
    private static final int TOO_DEEP = 7;

    private int status = FINE;
    private long top = 0;
    private long bottom = 1;
    private final Tray[] trays = new Tray[TRAYS];
    private final byte[] tape = new byte[TAPE_ROOM];
    private int taped = 0;
    private final Reader reader = new Reader();
    private final EmpireReader empireReader = new EmpireReader();
    private final PlanReader planReader = new PlanReader();
    private int faultKind = NONE;
    private int faultPlace = NONE;
    private final Empire realm = new Empire();
    // Texts are read, and seeds tried, on a copy: what is refused must change nothing.
    private final Empire draft = new Empire();
    private final Empire[] marks = new Empire[MAX_MARKS];
    private int marked = 0;
    private final Battle odds = new Battle();
    private final Life lastLife = new Life();
    private final Life trialLife = new Life();
    private boolean hasLived = false;

    public SeaFire() {
        for (int i = 0; i < TRAYS; i++) {
            trays[i] = new Tray();
        }
        for (int i = 0; i < MAX_MARKS; i++) {
            marks[i] = new Empire();
        }
    }

    public int status() {
        return status;
    }

    public long top() {
        return top;
    }

    public long bottom() {
        return bottom;
    }

    private int answer(int value) {
        status = FINE;
        return value;
    }

    private int answerIf(boolean so) {
        return answer(so ? 1 : 0);
    }

    private int refuse(int why) {
        status = why;
        return NONE;
    }

    private boolean grant() {
        status = FINE;
        return true;
    }

    private boolean deny(int why) {
        status = why;
        return false;
    }

    /** NONE stands for what is not there. */
    private int answerOrNothing(int value) {
        return value == NONE ? refuse(NOTHING) : answer(value);
    }

    private static boolean within(long value, int least, int most) {
        return value >= least && value <= most;
    }

    private void tellFraction(long above, long below) {
        long divisor = commonDivisor(above, below);
        top = divisor == 0 ? 0 : above / divisor;
        bottom = divisor == 0 ? 1 : below / divisor;
    }

    private static long commonDivisor(long a, long b) {
        // Each two turns halve the greater number, so 63 bits are gone well within 200.
        for (int i = 0; i < 200 && b != 0; i++) {
            long rest = a % b;
            a = b;
            b = rest;
        }
        return a;
    }

    // ---- TRAYS

    private static boolean isTray(int tray) {
        return within(tray, 0, TRAYS - 1);
    }

    /** The STATUS by which a TRAY can't give its first numbers, so many; else 0. */
    private int trayTrouble(int tray, long many) {
        if (!isTray(tray)) {
            return NO_TRAY;
        }
        if (trays[tray].isMissing()) {
            return MISSING;
        }
        return many > trays[tray].length ? NO_PLACE : FINE;
    }

    /** The STATUS by which a TRAY has not this place; else 0. */
    private int placeTrouble(int tray, int place) {
        int trouble = trayTrouble(tray, 0);
        if (trouble != FINE) {
            return trouble;
        }
        return within(place, 0, trays[tray].length - 1) ? FINE : NO_PLACE;
    }

    public boolean tray(int tray, int sort, int many) {
        if (!isTray(tray) || !within(sort, 0, SORTS - 1)) {
            return deny(NO_TRAY);
        }
        if (many > TRAY_ROOM) {
            return deny(BAD_NUMBER);
        }
        if (many < 0) {
            return deny(BELOW_ZERO);
        }
        trays[tray].lay(sort, many);
        return grant();
    }

    public boolean write(int tray, int place, long v) {
        int trouble = placeTrouble(tray, place);
        if (trouble != FINE) {
            return deny(trouble);
        }
        trays[tray].put(place, v);
        return grant();
    }

    public long read(int tray, int place) {
        int trouble = placeTrouble(tray, place);
        if (trouble != FINE) {
            return refuse(trouble);
        }
        status = FINE;
        return trays[tray].numbers[place];
    }

    public boolean pour(int tray, int i, int to, int j, int many) {
        if (!isTray(tray) || !isTray(to)) {
            return deny(NO_TRAY);
        }
        Tray source = trays[tray];
        Tray target = trays[to];
        if (source.isMissing() || target.isMissing()) {
            return deny(MISSING);
        }
        if (source.sort != target.sort) {
            return deny(UNLIKE_SORTS);
        }
        if (many < 0) {
            return deny(BELOW_ZERO);
        }
        if (!source.hasRun(i, many) || !target.hasRun(j, many)) {
            return deny(NO_PLACE);
        }
        System.arraycopy(source.numbers, i, target.numbers, j, many);
        return grant();
    }

    // ---- texts

    public int feed(int a, int b, int c, int d, int e) {
        if (taped > TAPE_ROOM - FEED_BYTES) {
            return NONE;
        }
        feedFour(a);
        feedFour(b);
        feedFour(c);
        feedFour(d);
        feedFour(e);
        return taped;
    }

    private void feedFour(int bytes) {
        for (int shift = 24; shift >= 0 && taped < TAPE_ROOM; shift -= 8) {
            tape[taped] = (byte) (bytes >> shift);
            taped++;
        }
    }

    public int empire(int n) {
        if (!within(n, 0, taped)) {
            return refuse(BAD_NUMBER);
        }
        taped = 0;
        reader.begin(tape, n);
        boolean taken = empireReader.parse(reader, draft);
        keepFault();
        if (!taken) {
            return refuse(FAULTY);
        }
        realm.copyFrom(draft);
        return answer(realm.hands);
    }

    public int empires(int n) {
        if (!within(n, 0, Math.min(taped, PLAN_BYTES))) {
            return refuse(BAD_NUMBER);
        }
        taped = 0;
        reader.begin(tape, n);
        boolean taken = planReader.parse(reader, realm, draft.plan);
        keepFault();
        if (!taken) {
            return refuse(FAULTY);
        }
        realm.plan.copyFrom(draft.plan);
        return answer(realm.plan.steps);
    }

    private void keepFault() {
        faultKind = reader.fault;
        faultPlace = reader.faultPlace;
    }

    public int fault(int what) {
        switch (what) {
            case 0: return faultKind;
            case 1: return faultPlace;
            default: return NONE;
        }
    }

    public int many(int what) {
        switch (what) {
            case 0: return answer(realm.parts);
            case 1: return answer(realm.hands);
            case 2: return answer(realm.springs);
            case 3: return answer(realm.life);
            case 4: return answer(realm.border);
            case 5: return answer(realm.jars);
            case 6: return answer(realm.year);
            case 7: return answer(realm.store);
            case 8: return answer(realm.living());
            case 9: return answer(realm.knownAfter(0));
            case 10: return answer(realm.written);
            case 11: return answer(realm.enemy);
            case 12: return answerIf(realm.isWholeAfter(0));
            default: return refuse(BAD_NUMBER);
        }
    }

    public int part(int part, int what) {
        if (!realm.hasPart(part)) {
            return refuse(NO_SUCH);
        }
        Part asked = realm.partRow[part];
        switch (what) {
            case 0: return answer(asked.fades);
            case 1: return answer(asked.ways);
            case 2: return answerIf(realm.isWritten(part));
            case 3: return answer(asked.rust);
            case 4: return answer(realm.livingThatKnow(part));
            default: return refuse(BAD_NUMBER);
        }
    }

    public int hand(int hand, int what) {
        if (!realm.hasHand(hand)) {
            return refuse(NO_SUCH);
        }
        Hand asked = realm.handRow[hand];
        switch (what) {
            case 0: return answer(asked.age);
            case 1: return answer(asked.price);
            case 2: return answer(asked.knows);
            case 3: return answer(asked.fate);
            default: return refuse(BAD_NUMBER);
        }
    }

    public int spring(int spring, int what) {
        if (!realm.hasSpring(spring)) {
            return refuse(NO_SUCH);
        }
        Spring asked = realm.springRow[spring];
        switch (what) {
            case 0: return answer(asked.miles);
            case 1: return answer(asked.gives);
            case 2: return answerIf(asked.miles <= realm.border);
            default: return refuse(BAD_NUMBER);
        }
    }

    public int copyKnown(int tray) {
        int trouble = trayTrouble(tray, realm.hands);
        if (trouble != FINE) {
            return refuse(trouble);
        }
        for (int h = 0; h < realm.hands; h++) {
            trays[tray].put(h, realm.handRow[h].knows);
        }
        return answer(realm.hands);
    }

    // ---- what is done

    public int year(int years) {
        if (!within(years, 1, 99)) {
            return refuse(BAD_NUMBER);
        }
        if (!realm.hasTimeFor(years)) {
            return refuse(TOO_MANY);
        }
        return answer(realm.passYears(years));
    }

    public int make(int jars) {
        if (!within(jars, 1, 999)) {
            return refuse(BAD_NUMBER);
        }
        return realm.brew(jars) ? answer(realm.jars) : refuse(CANNOT_BE);
    }

    public int use() {
        return realm.spend() ? answer(realm.jars) : refuse(CANNOT_BE);
    }

    public int teach(int hand, int other, int part) {
        if (!realm.hasHand(hand) || !realm.hasHand(other) || !realm.hasPart(part)) {
            return refuse(NO_SUCH);
        }
        if (!realm.instruct(hand, other, part)) {
            return refuse(CANNOT_BE);
        }
        return answer(realm.handRow[other].knows);
    }

    public boolean note(int part, boolean written) {
        if (!realm.hasPart(part)) {
            return deny(NO_SUCH);
        }
        boolean noted = written ? realm.writeDown(part) : realm.burnDown(part);
        return noted ? grant() : deny(CANNOT_BE);
    }

    public int capture(int hand) {
        if (!realm.hasHand(hand)) {
            return refuse(NO_SUCH);
        }
        return realm.seize(hand) ? answer(realm.enemy) : refuse(CANNOT_BE);
    }

    public int hire(int age, int price) {
        if (!within(age, 0, 99) || !within(price, 0, 99)) {
            return refuse(BAD_NUMBER);
        }
        if (realm.hands >= MAX_HANDS) {
            return refuse(TOO_MANY);
        }
        Hand hired = realm.addHand(Reader.NAMELESS);
        hired.age = age;
        hired.price = price;
        return answer(realm.hands - 1);
    }

    public boolean rule(int what, int much) {
        if (what == 0 && within(much, 10, 99)) {
            realm.life = much;
            return grant();
        }
        if (what == 1 && within(much, 0, 999)) {
            realm.border = much;
            return grant();
        }
        return deny(BAD_NUMBER);
    }

    public int supply(int much, boolean store) {
        if (!within(much, 1, MOST_JARS)) {
            return refuse(BAD_NUMBER);
        }
        if (store) {
            realm.store = Math.min(MOST_JARS, realm.store + much);
            return answer(realm.store);
        }
        realm.jars = Math.min(MOST_JARS, realm.jars + much);
        return answer(realm.jars);
    }

    public boolean leak(int part, boolean has) {
        if (!realm.hasPart(part)) {
            return deny(NO_SUCH);
        }
        if (has == ((realm.enemy >> part & 1) == 1)) {
            return deny(CANNOT_BE);
        }
        realm.enemy ^= 1 << part;
        return grant();
    }

    // ---- who knows

    public int knowers(int part) {
        return realm.hasPart(part) ? answer(realm.livingThatKnow(part)) : refuse(NO_SUCH);
    }

    public int knownBy(int hands) {
        return realm.isHandSet(hands) ? answer(realm.knowledgeOf(hands)) : refuse(BAD_NUMBER);
    }

    public int sells(int hands) {
        if (!realm.isHandSet(hands) || (hands & ~realm.living()) != 0) {
            return refuse(BAD_NUMBER);
        }
        if (realm.parts == 0) {
            return refuse(NOTHING);
        }
        return answerIf(realm.canSell(hands));
    }

    public int loses(int hands) {
        return realm.isHandSet(hands) ? answer(realm.lostBy(hands)) : refuse(BAD_NUMBER);
    }

    public int fewest() {
        int sellers = realm.fewestSellers();
        return sellers == NONE ? refuse(NOTHING) : answer(Integer.bitCount(sellers));
    }

    public int fewestSet() {
        return answerOrNothing(realm.fewestSellers());
    }

    public int bribe() {
        int sellers = realm.cheapestSellers();
        return sellers == NONE ? refuse(NOTHING) : answer(realm.priceOf(sellers));
    }

    public int bribeSet() {
        return answerOrNothing(realm.cheapestSellers());
    }

    public int frail() {
        int part = realm.frailestPart();
        return part == NONE ? refuse(NOTHING) : answer(realm.countThatKnow(part));
    }

    public int frailPart() {
        return answerOrNothing(realm.frailestPart());
    }

    public int safe(int k, int d) {
        if (!within(k, 0, MAX_HANDS) || !within(d, 0, MAX_HANDS)) {
            return refuse(BAD_NUMBER);
        }
        int part = realm.frailestPart();
        boolean keeps = part == NONE || realm.countThatKnow(part) > d;
        return answerIf(keeps && !realm.canBeSoldBy(k));
    }

    public int lesson(int k) {
        if (!within(k, 0, MAX_HANDS)) {
            return refuse(BAD_NUMBER);
        }
        return answerOrNothing(realm.bestLesson(k));
    }

    // ---- what comes

    public int lostIn(int part) {
        if (!realm.hasPart(part)) {
            return refuse(NO_SUCH);
        }
        for (int years = 0; years <= FORESIGHT; years++) {
            if ((realm.knownAfter(years) >> part & 1) == 0) {
                return answer(years);
            }
        }
        return refuse(NOTHING);
    }

    public int wholeFor() {
        for (int years = 0; years <= FORESIGHT; years++) {
            if (!realm.isWholeAfter(years)) {
                return answer(years);
            }
        }
        return refuse(NOTHING);
    }

    public int knownIn(int years) {
        return within(years, 0, FORESIGHT) ? answer(realm.knownAfter(years)) : refuse(BAD_NUMBER);
    }

    public int storeIn(int years) {
        return within(years, 0, FORESIGHT) ? answer(realm.storeAfter(years)) : refuse(BAD_NUMBER);
    }

    public int pace() {
        return realm.parts == 0 ? refuse(NOTHING) : answer(realm.yearsBetweenUses());
    }

    public int jarsFor(int years) {
        if (!within(years, 0, FORESIGHT)) {
            return refuse(BAD_NUMBER);
        }
        if (realm.parts == 0) {
            return refuse(NOTHING);
        }
        return answerOrNothing(realm.usesNeeded(years));
    }

    public int dies(int hand) {
        if (!realm.hasHand(hand)) {
            return refuse(NO_SUCH);
        }
        Hand asked = realm.handRow[hand];
        return asked.fate == LIVES ? answer(realm.yearsLeft(asked)) : refuse(NOTHING);
    }

    // ---- battles

    /** The STATUS by which the first n numbers of a TRAY are no winds; else 0. */
    private int windTrouble(int tray, int n) {
        int trouble = trayTrouble(tray, n);
        if (trouble != FINE) {
            return trouble;
        }
        if (!within(n, 0, MOST_TURNS)) {
            return BAD_NUMBER;
        }
        for (int i = 0; i < n; i++) {
            if (!within(trays[tray].numbers[i], 0, SIXTEEN)) {
                return BAD_NUMBER;
            }
        }
        return FINE;
    }

    private int battleTrouble(int tray, int n, int jars, int ships) {
        int trouble = windTrouble(tray, n);
        if (trouble != FINE) {
            return trouble;
        }
        boolean can = within(jars, 0, MOST_THROWN) && within(ships, 0, MOST_THROWN);
        return can ? FINE : BAD_NUMBER;
    }

    public boolean battle(int tray, int n, int jars, int ships) {
        int trouble = battleTrouble(tray, n, jars, ships);
        if (trouble != FINE) {
            return deny(trouble);
        }
        odds.foresee(trays[tray].numbers, n, 0);
        tellFraction(odds.best[jars][ships], odds.scale);
        return grant();
    }

    public int throwFirst(int tray, int n, int jars, int ships) {
        int trouble = battleTrouble(tray, n, jars, ships);
        if (trouble != FINE) {
            return refuse(trouble);
        }
        if (n == 0) {
            return refuse(BAD_NUMBER);
        }
        odds.foresee(trays[tray].numbers, n, 1);
        long wind = trays[tray].numbers[0];
        return answerIf(odds.thrown(wind, jars, ships) > odds.kept(jars, ships));
    }

    public int jarsToWin(int tray, int n, int ships, int sixteenths) {
        int trouble = battleTrouble(tray, n, 0, ships);
        if (trouble != FINE) {
            return refuse(trouble);
        }
        if (!within(sixteenths, 0, SIXTEEN)) {
            return refuse(BAD_NUMBER);
        }
        odds.foresee(trays[tray].numbers, n, 0);
        for (int jars = 0; jars <= MOST_THROWN; jars++) {
            if (odds.best[jars][ships] * SIXTEEN >= odds.scale * sixteenths) {
                return answer(jars);
            }
        }
        return refuse(NOTHING);
    }

    // ---- the enemy

    public long tries(int how) {
        switch (how) {
            case 0: return answer(realm.triesOneByOne());
            case 1: return answer(realm.triesAtOnce(realm.enemy));
            default: return refuse(BAD_NUMBER);
        }
    }

    public int worstLoss() {
        return answerOrNothing(realm.worstToLose());
    }

    /** The STATUS by which the first n twos of a TRAY tell nothing of HANDS; else 0. */
    private int toldTrouble(int tray, int n) {
        int trouble = trayTrouble(tray, 2L * n);
        if (trouble != FINE) {
            return trouble;
        }
        if (!within(n, 0, MOST_TOLD)) {
            return BAD_NUMBER;
        }
        long[] told = trays[tray].numbers;
        for (int i = 0; i < n; i++) {
            if (!realm.isHandSet(told[2 * i]) || !within(told[2 * i + 1], 0, 1)) {
                return BAD_NUMBER;
            }
        }
        return FINE;
    }

    public int needed(int tray, int n) {
        int trouble = toldTrouble(tray, n);
        if (trouble != FINE) {
            return refuse(trouble);
        }
        return answer(Long.bitCount(realm.waysNeeded(trays[tray].numbers, n)));
    }

    public int sure(int tray, int n) {
        int trouble = toldTrouble(tray, n);
        if (trouble != FINE) {
            return refuse(trouble);
        }
        long ways = realm.waysNeeded(trays[tray].numbers, n);
        return ways == 0 ? refuse(NOTHING) : answer(realm.commonParts(ways));
    }

    public int ask(int tray, int n) {
        int trouble = toldTrouble(tray, n);
        if (trouble != FINE) {
            return refuse(trouble);
        }
        long ways = realm.waysNeeded(trays[tray].numbers, n);
        if (Long.bitCount(ways) < 2 || realm.hands == 0) {
            return refuse(NOTHING);
        }
        return answer(realm.bestToAsk(ways));
    }

    // ---- EMPIRES

    public int live(int seed) {
        if (!within(seed, 0, LAST_SEED)) {
            return refuse(BAD_NUMBER);
        }
        if (!realm.plan.told) {
            return refuse(NOTHING);
        }
        lastLife.pursue(realm, seed);
        hasLived = true;
        return answer(lastLife.done);
    }

    public int lived(int what) {
        if (!within(what, 0, 4)) {
            return refuse(BAD_NUMBER);
        }
        if (!hasLived) {
            return refuse(NOTHING);
        }
        switch (what) {
            case 0: return answer(lastLife.missed);
            case 1: return answer(lastLife.years);
            case 2: return answer(lastLife.made);
            case 3: return answer(lastLife.gone);
            default: return answerIf(lastLife.stepLeft);
        }
    }

    public boolean mean(int seed, int many) {
        if (!within(seed, 0, LAST_SEED) || !within(many, 1, 20) || seed + many - 1 > LAST_SEED) {
            return deny(BAD_NUMBER);
        }
        if (!realm.plan.told) {
            return deny(NOTHING);
        }
        int known = 0;
        for (int i = 0; i < many; i++) {
            draft.copyFrom(realm);
            trialLife.pursue(draft, seed + i);
            known += Integer.bitCount(draft.knownAfter(0));
        }
        tellFraction(known, many);
        return grant();
    }

    // ---- MARKS

    public int mark() {
        if (marked >= MAX_MARKS) {
            return refuse(TOO_MANY);
        }
        marks[marked].copyFrom(realm);
        marked++;
        return answer(marked);
    }

    public int back() {
        if (marked <= 0) {
            return refuse(NOTHING);
        }
        marked--;
        realm.copyFrom(marks[marked]);
        return answer(marked);
    }

    /** A row of numbers of one sort. */
    private static final class Tray {
        final long[] numbers = new long[TRAY_ROOM];
        int sort = NONE;
        int length = 0;

        boolean isMissing() {
            return sort == NONE;
        }

        void lay(int newSort, int many) {
            sort = newSort;
            length = many;
            for (int i = 0; i < TRAY_ROOM; i++) {
                numbers[i] = 0;
            }
        }

        void put(int place, long v) {
            numbers[place] = cutToSort(v);
        }

        private long cutToSort(long v) {
            switch (sort) {
                case 0: return (byte) v;
                case 1: return (short) v;
                case 2: return (int) v;
                default: return v;
            }
        }

        /** Written without a sum, which could overflow. */
        boolean hasRun(int place, int many) {
            return within(place, 0, length) && many <= length - place;
        }
    }

    private static final class Part {
        long name = Reader.NAMELESS;
        int fades = 0;
        int ways = 0;
        int rust = 0;

        void copyFrom(Part other) {
            name = other.name;
            fades = other.fades;
            ways = other.ways;
            rust = other.rust;
        }
    }

    private static final class Hand {
        long name = Reader.NAMELESS;
        int age = 0;
        int price = 0;
        int knows = 0;
        int fate = LIVES;

        void copyFrom(Hand other) {
            name = other.name;
            age = other.age;
            price = other.price;
            knows = other.knows;
            fate = other.fate;
        }
    }

    private static final class Spring {
        long name = Reader.NAMELESS;
        int miles = 0;
        int gives = 0;

        void copyFrom(Spring other) {
            name = other.name;
            miles = other.miles;
            gives = other.gives;
        }
    }

    /** The EMPIRE, all that became of it, and the EMPIRES told of it. */
    private static final class Empire {
        int life;
        int border;
        int jars;
        int year;
        int store;
        int enemy;
        int written;
        int parts;
        int hands;
        int springs;
        final Part[] partRow = new Part[MAX_PARTS];
        final Hand[] handRow = new Hand[MAX_HANDS];
        final Spring[] springRow = new Spring[MAX_SPRINGS];
        final Plan plan = new Plan();

        Empire() {
            for (int p = 0; p < MAX_PARTS; p++) {
                partRow[p] = new Part();
            }
            for (int h = 0; h < MAX_HANDS; h++) {
                handRow[h] = new Hand();
            }
            for (int s = 0; s < MAX_SPRINGS; s++) {
                springRow[s] = new Spring();
            }
            clear();
        }

        void clear() {
            life = 70;
            border = 100;
            jars = 0;
            year = 0;
            store = 0;
            enemy = 0;
            written = 0;
            parts = 0;
            hands = 0;
            springs = 0;
            plan.clear();
        }

        void copyFrom(Empire other) {
            life = other.life;
            border = other.border;
            jars = other.jars;
            year = other.year;
            store = other.store;
            enemy = other.enemy;
            written = other.written;
            parts = other.parts;
            hands = other.hands;
            springs = other.springs;
            for (int p = 0; p < parts; p++) {
                partRow[p].copyFrom(other.partRow[p]);
            }
            for (int h = 0; h < hands; h++) {
                handRow[h].copyFrom(other.handRow[h]);
            }
            for (int s = 0; s < springs; s++) {
                springRow[s].copyFrom(other.springRow[s]);
            }
            plan.copyFrom(other.plan);
        }

        // The callers look at the limits first: each limit has a STATUS or a FAULT of its own.

        Part addPart(long name) {
            Part added = partRow[parts];
            parts++;
            added.name = name;
            added.rust = 0;
            return added;
        }

        Hand addHand(long name) {
            Hand added = handRow[hands];
            hands++;
            added.name = name;
            added.knows = 0;
            added.fate = LIVES;
            return added;
        }

        Spring addSpring(long name) {
            Spring added = springRow[springs];
            springs++;
            added.name = name;
            return added;
        }

        boolean hasPart(int part) {
            return within(part, 0, parts - 1);
        }

        boolean hasHand(int hand) {
            return within(hand, 0, hands - 1);
        }

        boolean hasSpring(int spring) {
            return within(spring, 0, springs - 1);
        }

        boolean isHandSet(long set) {
            return within(set, 0, allHands());
        }

        int allParts() {
            return (1 << parts) - 1;
        }

        int allHands() {
            return (1 << hands) - 1;
        }

        int findPart(long name) {
            for (int p = 0; p < parts; p++) {
                if (partRow[p].name == name) {
                    return p;
                }
            }
            return NONE;
        }

        int findHand(long name) {
            for (int h = 0; h < hands; h++) {
                if (handRow[h].name == name) {
                    return h;
                }
            }
            return NONE;
        }

        boolean hasName(long name) {
            for (int s = 0; s < springs; s++) {
                if (springRow[s].name == name) {
                    return true;
                }
            }
            return findPart(name) != NONE || findHand(name) != NONE;
        }

        // What is, and what will be if only YEARS go by.

        int living() {
            int set = 0;
            for (int h = 0; h < hands; h++) {
                if (handRow[h].fate == LIVES) {
                    set |= 1 << h;
                }
            }
            return set;
        }

        boolean isWritten(int part) {
            return (written >> part & 1) == 1;
        }

        /** Who is too old by now lives on until the next YEAR. */
        int yearsLeft(Hand hand) {
            return Math.max(1, life - hand.age);
        }

        /** PARTS fade in a YEAR, never between two: none in 0 YEARS, whatever the RUST. */
        int fadedWithin(int years) {
            int set = 0;
            for (int p = 0; p < parts && years > 0; p++) {
                if (partRow[p].rust + years >= partRow[p].fades) {
                    set |= 1 << p;
                }
            }
            return set;
        }

        int knownAfter(int years) {
            int known = 0;
            for (int h = 0; h < hands; h++) {
                Hand hand = handRow[h];
                if (hand.fate == LIVES && yearsLeft(hand) > years) {
                    known |= hand.knows;
                }
            }
            return written | known & ~fadedWithin(years);
        }

        boolean isWholeAfter(int years) {
            return parts > 0 && knownAfter(years) == allParts();
        }

        int storeAfter(int years) {
            int flow = 0;
            for (int s = 0; s < springs; s++) {
                if (springRow[s].miles <= border) {
                    flow += springRow[s].gives;
                }
            }
            return Math.min(MOST_JARS, store + years * flow);
        }

        int yearsBetweenUses() {
            int least = MOST_RUST;
            for (int p = 0; p < parts; p++) {
                least = Math.min(least, partRow[p].fades);
            }
            return least - 1;
        }

        /** NONE if a PART fades within one YEAR of a USE. */
        int usesNeeded(int years) {
            int spare = years;
            for (int p = 0; p < parts; p++) {
                spare = Math.min(spare, partRow[p].fades - 1 - partRow[p].rust);
            }
            int uncovered = years - Math.max(0, spare);
            int pace = yearsBetweenUses();
            if (uncovered == 0) {
                return 0;
            }
            return pace > 0 ? (uncovered + pace - 1) / pace : NONE;
        }

        // What is done.

        boolean hasTimeFor(int years) {
            return year + years <= LAST_YEAR;
        }

        /** All YEARS at once; the set of HANDS that DIED in them. */
        int passYears(int years) {
            int fading = fadedWithin(years);
            int died = 0;
            for (int h = 0; h < hands; h++) {
                Hand hand = handRow[h];
                if (hand.fate == LIVES && yearsLeft(hand) <= years) {
                    layToRest(hand);
                    died |= 1 << h;
                } else if (hand.fate == LIVES) {
                    hand.age += years;
                    hand.knows &= ~fading;
                }
            }
            store = storeAfter(years);
            for (int p = 0; p < parts; p++) {
                partRow[p].rust = Math.min(MOST_RUST, partRow[p].rust + years);
            }
            year += years;
            return died;
        }

        /** In its last YEAR a HAND DIES ahead of the fading, and keeps what fades then. */
        private void layToRest(Hand hand) {
            int left = yearsLeft(hand);
            hand.knows &= ~fadedWithin(left - 1);
            hand.age += left;
            hand.fate = DEAD;
        }

        private void scourRust() {
            for (int p = 0; p < parts; p++) {
                partRow[p].rust = 0;
            }
        }

        boolean brew(int many) {
            if (!isWholeAfter(0) || store < many) {
                return false;
            }
            store -= many;
            jars = Math.min(MOST_JARS, jars + many);
            scourRust();
            return true;
        }

        boolean spend() {
            if (!isWholeAfter(0) || jars < 1) {
                return false;
            }
            jars--;
            scourRust();
            return true;
        }

        boolean instruct(int teacher, int pupil, int part) {
            Hand from = handRow[teacher];
            Hand to = handRow[pupil];
            boolean learnable = teacher == pupil ? isWritten(part) : from.fate == LIVES && (from.knows >> part & 1) == 1;
            if (!learnable || to.fate != LIVES || (to.knows >> part & 1) == 1) {
                return false;
            }
            to.knows |= 1 << part;
            return true;
        }

        boolean writeDown(int part) {
            if (isWritten(part) || livingThatKnow(part) == 0) {
                return false;
            }
            written |= 1 << part;
            return true;
        }

        boolean burnDown(int part) {
            if (!isWritten(part)) {
                return false;
            }
            written &= ~(1 << part);
            return true;
        }

        boolean seize(int hand) {
            if (handRow[hand].fate != LIVES) {
                return false;
            }
            handRow[hand].fate = CAPTURED;
            enemy |= handRow[hand].knows;
            return true;
        }

        // Who knows.

        int livingThatKnow(int part) {
            int set = 0;
            for (int h = 0; h < hands; h++) {
                if (handRow[h].fate == LIVES && (handRow[h].knows >> part & 1) == 1) {
                    set |= 1 << h;
                }
            }
            return set;
        }

        int countThatKnow(int part) {
            return Integer.bitCount(livingThatKnow(part));
        }

        int knowledgeOf(int set) {
            int known = 0;
            for (int h = 0; h < hands; h++) {
                if ((set >> h & 1) == 1) {
                    known |= handRow[h].knows;
                }
            }
            return known;
        }

        int priceOf(int set) {
            int sum = 0;
            for (int h = 0; h < hands; h++) {
                if ((set >> h & 1) == 1) {
                    sum += handRow[h].price;
                }
            }
            return sum;
        }

        boolean canSell(int set) {
            return parts > 0 && knowledgeOf(set) == allParts();
        }

        int lostBy(int set) {
            return knownAfter(0) & ~(written | knowledgeOf(living() & ~set));
        }

        /** Sets are tried from the least number up, so of equal ones the least stays. */
        int fewestSellers() {
            int alive = living();
            int best = NONE;
            for (int set = 1; set <= alive; set++) {
                boolean better = best == NONE || Integer.bitCount(set) < Integer.bitCount(best);
                if ((set & ~alive) == 0 && better && canSell(set)) {
                    best = set;
                }
            }
            return best;
        }

        int cheapestSellers() {
            int alive = living();
            int best = NONE;
            for (int set = 1; set <= alive; set++) {
                if ((set & ~alive) == 0 && canSell(set) && (best == NONE || isCheaper(set, best))) {
                    best = set;
                }
            }
            return best;
        }

        private boolean isCheaper(int set, int other) {
            int price = priceOf(set);
            int otherPrice = priceOf(other);
            if (price != otherPrice) {
                return price < otherPrice;
            }
            return Integer.bitCount(set) < Integer.bitCount(other);
        }

        boolean canBeSoldBy(int many) {
            int sellers = fewestSellers();
            return sellers != NONE && Integer.bitCount(sellers) <= many;
        }

        /** NONE if no death can lose a PART. */
        int frailestPart() {
            int losable = lostBy(living());
            int best = NONE;
            for (int p = 0; p < parts; p++) {
                if ((losable >> p & 1) == 1 && (best == NONE || countThatKnow(p) < countThatKnow(best))) {
                    best = p;
                }
            }
            return best;
        }

        /** How many know the PART that fewest do; where all is WRITTEN no lesson can add to it. */
        private int thinnest() {
            int least = MAX_HANDS;
            for (int p = 0; p < parts; p++) {
                if (!isWritten(p)) {
                    least = Math.min(least, countThatKnow(p));
                }
            }
            return least;
        }

        /** One lesson adds one HAND at most, so the first that adds any is the best. */
        int bestLesson(int k) {
            int alive = living();
            int known = knownAfter(0);
            for (int h = 0; h < hands; h++) {
                for (int p = 0; p < parts; p++) {
                    boolean taught = (alive >> h & 1) == 1 && ((known & ~handRow[h].knows) >> p & 1) == 1;
                    if (taught && isGoodLesson(handRow[h], 1 << p, k)) {
                        return 10 * h + p;
                    }
                }
            }
            return NONE;
        }

        private boolean isGoodLesson(Hand pupil, int lesson, int k) {
            int before = thinnest();
            pupil.knows |= lesson;
            boolean good = thinnest() > before && !canBeSoldBy(k);
            pupil.knows &= ~lesson;
            return good;
        }

        // The enemy.

        int triesOneByOne() {
            int sum = 0;
            for (int p = 0; p < parts; p++) {
                sum += (enemy >> p & 1) == 1 ? 0 : partRow[p].ways;
            }
            return sum;
        }

        int triesAtOnce(int has) {
            int product = 1;
            for (int p = 0; p < parts; p++) {
                product *= (has >> p & 1) == 1 ? 1 : partRow[p].ways;
            }
            return product;
        }

        int worstToLose() {
            int worst = NONE;
            int least = 0;
            for (int h = 0; h < hands; h++) {
                int left = triesAtOnce(enemy | handRow[h].knows);
                if (handRow[h].fate == LIVES && (worst == NONE || left < least)) {
                    worst = h;
                    least = left;
                }
            }
            return worst;
        }

        /** Bit w of the answer stands if the set w of PARTS agrees with all that is told. */
        long waysNeeded(long[] told, int twos) {
            long ways = waysWithin(ALL_BUT_THE_EMPTY_SET, allParts());
            for (int i = 0; i < twos; i++) {
                long could = waysWithin(ways, knowledgeOf((int) told[2 * i]));
                ways = told[2 * i + 1] == 1 ? could : ways & ~could;
            }
            return ways;
        }

        private static long waysWithin(long ways, int known) {
            long left = ways;
            for (int p = 0; p < MAX_PARTS; p++) {
                if ((known >> p & 1) == 0) {
                    left &= ~SETS_WITH[p];
                }
            }
            return left;
        }

        int commonParts(long ways) {
            int common = 0;
            for (int p = 0; p < parts; p++) {
                if ((ways & ~SETS_WITH[p]) == 0) {
                    common |= 1 << p;
                }
            }
            return common;
        }

        int bestToAsk(long ways) {
            int best = NONE;
            int least = 0;
            for (int set = 1; set <= allHands(); set++) {
                int could = Long.bitCount(waysWithin(ways, knowledgeOf(set)));
                int greater = Math.max(could, Long.bitCount(ways) - could);
                if (best == NONE || greater < least) {
                    best = set;
                    least = greater;
                }
            }
            return best;
        }
    }

    /** The EMPIRES as rows: a STEP or an end each. */
    private static final class Plan {
        final int[] word = new int[MAX_ROWS];
        final int[] first = new int[MAX_ROWS];
        final int[] second = new int[MAX_ROWS];
        final int[] third = new int[MAX_ROWS];
        // The row of the end that belongs to a when or loop, and back.
        final int[] partner = new int[MAX_ROWS];
        int rows = 0;
        int steps = 0;
        // A text of no STEP is not the same as no text.
        boolean told = false;

        void clear() {
            rows = 0;
            steps = 0;
            told = false;
        }

        void copyFrom(Plan other) {
            rows = other.rows;
            steps = other.steps;
            told = other.told;
            System.arraycopy(other.word, 0, word, 0, rows);
            System.arraycopy(other.first, 0, first, 0, rows);
            System.arraycopy(other.second, 0, second, 0, rows);
            System.arraycopy(other.third, 0, third, 0, rows);
            System.arraycopy(other.partner, 0, partner, 0, rows);
        }

        int addRow(int rowWord) {
            int row = rows;
            word[row] = rowWord;
            first[row] = 0;
            second[row] = 0;
            third[row] = 0;
            partner[row] = row;
            rows++;
            return row;
        }
    }

    /** The TOKENS of a text, one at a time, and the first FAULT met. */
    private static final class Reader {
        private static final String KEYWORDS = "life border jars part fades ways written hand age price knows spring at gives year make use teach write burn capture any when known whole loop end stop ";
        // A HAND that is hired, and a WORD too long for a NAME; no NAME has this number.
        static final long NAMELESS = 0;
        private static final int NAME_LETTERS = 8;
        private static final int NUMBER_DIGITS = 4;

        private static final int AT_END = 0;
        private static final int IS_WORD = 1;
        private static final int IS_NUMBER = 2;
        private static final int IS_SIGN = 3;
        private static final int IS_NO_TOKEN = 4;

        private final long[] keywords = new long[KEYWORD_COUNT];
        private final int[] kinds = new int[TAPE_ROOM + 1];
        private final int[] places = new int[TAPE_ROOM + 1];
        private final long[] values = new long[TAPE_ROOM + 1];
        private int tokens = 0;
        private int current = 0;
        int length = 0;
        // The TOKEN that stands next.
        private int kind = AT_END;
        private int value = 0;
        long word = NAMELESS;
        int keyword = NONE;
        // What the latest take..() took.
        int number = 0;
        int fault = 0;
        int faultPlace = NONE;

        Reader() {
            int count = 0;
            long code = NAMELESS;
            for (int i = 0; i < KEYWORDS.length() && count < KEYWORD_COUNT; i++) {
                char c = KEYWORDS.charAt(i);
                if (isLetter(c)) {
                    code = withLetter(code, c);
                } else {
                    keywords[count] = code;
                    count++;
                    code = NAMELESS;
                }
            }
        }

        private static boolean isLetter(int c) {
            return c >= 'a' && c <= 'z';
        }

        private static boolean isDigit(int c) {
            return c >= '0' && c <= '9';
        }

        private static boolean isBlank(int c) {
            return c == 10 || c == 32;
        }

        private static boolean isSign(int c) {
            return c == ';' || c == '<' || c == '>' || c == '=';
        }

        /** Eight letters of five bits fit a long, so NAMES need no objects. */
        private static long withLetter(long code, int letter) {
            return code << 5 | letter - 'a' + 1;
        }

        /** What is no TOKEN is kept too: it is a FAULT only if none stands ahead of it. */
        void begin(byte[] text, int newLength) {
            length = Math.max(0, Math.min(newLength, Math.min(text.length, TAPE_ROOM)));
            tokens = 0;
            int at = 0;
            for (int i = 0; i < length && at < length; i++) {
                at = isBlank(text[at]) ? at + 1 : scanToken(text, at);
            }
            kinds[tokens] = AT_END;
            places[tokens] = length;
            values[tokens] = 0;
            fault = 0;
            faultPlace = NONE;
            current = NONE;
            advance();
        }

        /** Keeps the TOKEN that begins here; the place behind it. */
        private int scanToken(byte[] text, int at) {
            places[tokens] = at;
            int behind = at + 1;
            if (isLetter(text[at])) {
                behind = scanWord(text, at);
            } else if (isDigit(text[at])) {
                behind = scanNumber(text, at);
            } else {
                kinds[tokens] = isSign(text[at]) ? IS_SIGN : IS_NO_TOKEN;
                values[tokens] = text[at];
            }
            tokens++;
            return behind;
        }

        private int scanWord(byte[] text, int at) {
            int behind = at;
            long code = NAMELESS;
            while (behind < length && isLetter(text[behind])) {
                code = withLetter(code, text[behind]);
                behind++;
            }
            kinds[tokens] = IS_WORD;
            values[tokens] = behind - at <= NAME_LETTERS ? code : NAMELESS;
            return behind;
        }

        private int scanNumber(byte[] text, int at) {
            int behind = at;
            int sum = 0;
            while (behind < length && isDigit(text[behind])) {
                sum = behind - at < NUMBER_DIGITS ? 10 * sum + text[behind] - '0' : 0;
                behind++;
            }
            kinds[tokens] = behind - at <= NUMBER_DIGITS ? IS_NUMBER : IS_NO_TOKEN;
            values[tokens] = sum;
            return behind;
        }

        void advance() {
            current = Math.min(current + 1, tokens);
            kind = kinds[current];
            word = kind == IS_WORD ? values[current] : NAMELESS;
            value = kind == IS_WORD ? 0 : (int) values[current];
            keyword = NONE;
            for (int i = 0; i < KEYWORD_COUNT && word != NAMELESS; i++) {
                if (keywords[i] == word) {
                    keyword = i;
                }
            }
        }

        boolean atEnd() {
            return kind == AT_END;
        }

        boolean atName() {
            return kind == IS_WORD && word != NAMELESS && keyword == NONE;
        }

        boolean atSign(int sign) {
            return kind == IS_SIGN && value == sign;
        }

        boolean fail(int what) {
            fault = what;
            faultPlace = places[current];
            return false;
        }

        boolean misplaced() {
            return fail(kind == IS_NO_TOKEN ? NO_TOKEN : MISPLACED);
        }

        boolean takeWord(int which) {
            if (keyword != which) {
                return misplaced();
            }
            advance();
            return true;
        }

        boolean takeSign(int sign) {
            if (!atSign(sign)) {
                return misplaced();
            }
            advance();
            return true;
        }

        boolean takeComparing() {
            if (kind != IS_SIGN || value == ';') {
                return misplaced();
            }
            number = value;
            advance();
            return true;
        }

        boolean takeNumber(int least, int most) {
            if (kind != IS_NUMBER) {
                return misplaced();
            }
            if (!within(value, least, most)) {
                return fail(WRONG_NUMBER);
            }
            number = value;
            advance();
            return true;
        }

        boolean takeWordAndNumber(int which, int least, int most) {
            return takeWord(which) && takeNumber(least, most);
        }

        boolean takeOptional(int which, int least, int most, int without) {
            number = without;
            if (keyword != which) {
                return true;
            }
            advance();
            return takeNumber(least, most);
        }

        /** The NAME that stands here is the thing of this number, NONE if it is no such one. */
        boolean takeNameOf(int thing) {
            if (!atName()) {
                return misplaced();
            }
            if (thing == NONE) {
                return fail(WRONG_NAME);
            }
            number = thing;
            advance();
            return true;
        }
    }

    /** Reads the text of an EMPIRE. */
    private static final class EmpireReader {
        // Bit w stands if the word w, of those that may stand once, has stood.
        private int told = 0;

        boolean parse(Reader in, Empire out) {
            out.clear();
            told = 0;
            // What is told takes a byte at least.
            for (int i = 0; i <= in.length && !in.atEnd(); i++) {
                if (!parseThing(in, out) || !in.takeSign(';')) {
                    return false;
                }
            }
            return true;
        }

        private boolean parseThing(Reader in, Empire out) {
            switch (in.keyword) {
                case LIFE: return parseOnce(in, out, 10, 99);
                case BORDER: return parseOnce(in, out, 0, 999);
                case JARS: return parseOnce(in, out, 0, MOST_JARS);
                case PART: return parsePart(in, out);
                case HAND: return parseHand(in, out);
                case SPRING: return parseSpring(in, out);
                default: return in.misplaced();
            }
        }

        private boolean parseOnce(Reader in, Empire out, int least, int most) {
            int word = in.keyword;
            if ((told >> word & 1) == 1) {
                return in.fail(TOLD_TWICE);
            }
            told |= 1 << word;
            if (!in.takeWordAndNumber(word, least, most)) {
                return false;
            }
            switch (word) {
                case LIFE: out.life = in.number; break;
                case BORDER: out.border = in.number; break;
                default: out.jars = in.number; break;
            }
            return true;
        }

        /** Looks at a NAME that must be new, and leaves it to be taken. */
        private boolean checkNewName(Reader in, Empire out) {
            if (!in.atName()) {
                return in.misplaced();
            }
            return !out.hasName(in.word) || in.fail(WRONG_NAME);
        }

        private boolean parsePart(Reader in, Empire out) {
            if (out.parts >= MAX_PARTS) {
                return in.fail(ONE_MORE);
            }
            in.advance();
            if (!checkNewName(in, out)) {
                return false;
            }
            Part part = out.addPart(in.word);
            in.advance();
            if (!in.takeOptional(FADES, 1, 99, 30)) {
                return false;
            }
            part.fades = in.number;
            if (!in.takeOptional(WAYS, 1, 9, 3)) {
                return false;
            }
            part.ways = in.number;
            if (in.keyword == WRITTEN) {
                out.written |= 1 << out.parts - 1;
                in.advance();
            }
            return true;
        }

        private boolean parseHand(Reader in, Empire out) {
            if (out.hands >= MAX_HANDS) {
                return in.fail(ONE_MORE);
            }
            in.advance();
            if (!checkNewName(in, out)) {
                return false;
            }
            Hand hand = out.addHand(in.word);
            in.advance();
            if (!in.takeWordAndNumber(AGE, 0, 99)) {
                return false;
            }
            hand.age = in.number;
            if (!in.takeOptional(PRICE, 0, 99, 10)) {
                return false;
            }
            hand.price = in.number;
            return in.keyword != KNOWS || parseKnown(in, out, hand);
        }

        private boolean parseKnown(Reader in, Empire out, Hand hand) {
            in.advance();
            // Behind all PARTS one more NAME is wrong or told twice.
            for (int i = 0; i <= MAX_PARTS && !in.atSign(';'); i++) {
                int part = out.findPart(in.word);
                if (in.atName() && part != NONE && (hand.knows >> part & 1) == 1) {
                    return in.fail(TOLD_TWICE);
                }
                if (!in.takeNameOf(part)) {
                    return false;
                }
                hand.knows |= 1 << part;
            }
            return true;
        }

        private boolean parseSpring(Reader in, Empire out) {
            if (out.springs >= MAX_SPRINGS) {
                return in.fail(ONE_MORE);
            }
            in.advance();
            if (!checkNewName(in, out)) {
                return false;
            }
            Spring spring = out.addSpring(in.word);
            in.advance();
            if (!in.takeWordAndNumber(AT, 0, 999)) {
                return false;
            }
            spring.miles = in.number;
            if (!in.takeWordAndNumber(GIVES, 0, 99)) {
                return false;
            }
            spring.gives = in.number;
            return true;
        }
    }

    /** Reads the text of EMPIRES. */
    private static final class PlanReader {
        private final int[] open = new int[MAX_DEPTH];
        private int depth = 0;

        boolean parse(Reader in, Empire empire, Plan out) {
            out.clear();
            depth = 0;
            // A STEP, and an end, takes a byte at least.
            for (int i = 0; i <= in.length && !in.atEnd(); i++) {
                boolean taken = in.keyword == END ? parseEnd(in, out) : parseStep(in, empire, out);
                if (!taken || !in.takeSign(';')) {
                    return false;
                }
            }
            if (depth > 0) {
                return in.misplaced();
            }
            out.told = true;
            return true;
        }

        private boolean parseEnd(Reader in, Plan out) {
            if (depth <= 0) {
                return in.misplaced();
            }
            in.advance();
            depth--;
            int row = out.addRow(END);
            out.partner[row] = open[depth];
            out.partner[open[depth]] = row;
            return true;
        }

        private static boolean beginsStep(int word) {
            return within(word, YEAR, WHEN) || word == LOOP || word == STOP;
        }

        private boolean parseStep(Reader in, Empire empire, Plan out) {
            int word = in.keyword;
            if (!beginsStep(word)) {
                return in.misplaced();
            }
            if (out.steps >= MAX_STEPS) {
                return in.fail(ONE_MORE);
            }
            boolean opens = word == WHEN || word == LOOP;
            if (opens && depth >= MAX_DEPTH) {
                return in.fail(TOO_DEEP);
            }
            in.advance();
            int row = out.addRow(word);
            out.steps++;
            if (opens) {
                open[depth] = row;
                depth++;
            }
            return word == TEACH ? parseTeach(in, empire, out, row)
                    : word == WHEN ? parseTest(in, empire, out, row)
                    : parseOne(in, empire, out, row);
        }

        /** A STEP of one NUMBER or NAME, or none. */
        private boolean parseOne(Reader in, Empire empire, Plan out, int row) {
            in.number = 0;
            boolean taken = takeOne(in, empire, out.word[row]);
            out.first[row] = in.number;
            return taken;
        }

        private boolean takeOne(Reader in, Empire empire, int word) {
            switch (word) {
                case YEAR: return in.takeNumber(1, 20);
                case MAKE: return in.takeNumber(1, 999);
                case LOOP: return in.takeNumber(1, 99);
                case WRITE:
                case BURN: return in.takeNameOf(empire.findPart(in.word));
                case CAPTURE: return in.takeNameOf(empire.findHand(in.word));
                default: return true;
            }
        }

        private boolean parseTeach(Reader in, Empire empire, Plan out, int row) {
            if (!in.takeNameOf(empire.findHand(in.word))) {
                return false;
            }
            out.first[row] = in.number;
            if (!in.takeNameOf(empire.findHand(in.word))) {
                return false;
            }
            out.second[row] = in.number;
            if (!in.takeNameOf(empire.findPart(in.word))) {
                return false;
            }
            out.third[row] = in.number;
            return true;
        }

        private boolean parseTest(Reader in, Empire empire, Plan out, int row) {
            int test = in.keyword;
            if (test != KNOWN && test != WHOLE && test != JARS) {
                return in.misplaced();
            }
            in.advance();
            out.first[row] = test;
            if (test == KNOWN) {
                boolean taken = in.takeNameOf(empire.findPart(in.word));
                out.second[row] = in.number;
                return taken;
            }
            return test == WHOLE || parseComparing(in, out, row);
        }

        private boolean parseComparing(Reader in, Plan out, int row) {
            if (!in.takeComparing()) {
                return false;
            }
            out.second[row] = in.number;
            boolean taken = in.takeNumber(0, MOST_JARS);
            out.third[row] = in.number;
            return taken;
        }
    }

    /** One life of an EMPIRE by its EMPIRES, and what is told of it. */
    private static final class Life {
        // Between two STEPS stand three ends at the most: far below this in 300 STEPS.
        private static final int MOST_MOVES = 1000000;

        int done = 0;
        int missed = 0;
        int years = 0;
        int made = 0;
        int gone = 0;
        boolean stepLeft = false;
        private int chance = 0;
        private final int[] turnsLeft = new int[MAX_ROWS];

        void pursue(Empire empire, int seed) {
            done = 0;
            missed = 0;
            years = 0;
            made = 0;
            gone = 0;
            stepLeft = false;
            chance = seed;
            Plan plan = empire.plan;
            int row = 0;
            for (int moves = 0; moves < MOST_MOVES && row < plan.rows && !stepLeft; moves++) {
                if (plan.word[row] == END) {
                    row = behindEnd(plan, row);
                } else if (done >= MOST_STEPS_DONE) {
                    stepLeft = true;
                } else if (isTurning(plan.word[row])) {
                    done++;
                    row = behindTurning(empire, row);
                } else {
                    done++;
                    missed += achieve(empire, row) ? 0 : 1;
                    row++;
                }
            }
        }

        private static boolean isTurning(int word) {
            return word == WHEN || word == LOOP || word == STOP;
        }

        private int behindEnd(Plan plan, int row) {
            int opener = plan.partner[row];
            turnsLeft[opener]--;
            return turnsLeft[opener] > 0 ? opener + 1 : row + 1;
        }

        private int behindTurning(Empire empire, int row) {
            Plan plan = empire.plan;
            int end = plan.partner[row];
            if (plan.word[row] == STOP) {
                return plan.rows;
            }
            if (plan.word[row] == WHEN) {
                turnsLeft[row] = 1;
                return holds(empire, row) ? row + 1 : end + 1;
            }
            // An empty loop has nothing to go round for.
            turnsLeft[row] = end == row + 1 ? 1 : plan.first[row];
            return row + 1;
        }

        private static boolean holds(Empire empire, int row) {
            Plan plan = empire.plan;
            switch (plan.first[row]) {
                case KNOWN: return (empire.knownAfter(0) >> plan.second[row] & 1) == 1;
                case WHOLE: return empire.isWholeAfter(0);
                default: return compares(empire.jars, plan.second[row], plan.third[row]);
            }
        }

        private static boolean compares(int jars, int sign, int number) {
            switch (sign) {
                case '<': return jars < number;
                case '>': return jars > number;
                default: return jars == number;
            }
        }

        /** Whether the STEP could be. */
        private boolean achieve(Empire empire, int row) {
            Plan plan = empire.plan;
            int first = plan.first[row];
            switch (plan.word[row]) {
                case YEAR: return age(empire, first);
                case MAKE: return countMade(empire.brew(first), first);
                case USE: return empire.spend();
                case TEACH: return empire.instruct(first, plan.second[row], plan.third[row]);
                case WRITE: return empire.writeDown(first);
                case BURN: return empire.burnDown(first);
                case CAPTURE: return countGone(empire.seize(first));
                case ANY:
                default: return empire.hands > 0 && countGone(empire.seize(draw(empire.hands)));
            }
        }

        private boolean age(Empire empire, int many) {
            if (!empire.hasTimeFor(many)) {
                return false;
            }
            gone += Integer.bitCount(empire.passYears(many));
            years += many;
            return true;
        }

        private boolean countMade(boolean brewed, int many) {
            made += brewed ? many : 0;
            return brewed;
        }

        private boolean countGone(boolean seized) {
            gone += seized ? 1 : 0;
            return seized;
        }

        private int draw(int by) {
            chance = (chance * 2971 + 10753) % 65536;
            return by > 0 ? chance / 8 % by : 0;
        }
    }

    /** The best odds by JARS and ships, in whole parts of 16 to the number of turns foreseen. */
    private static final class Battle {
        final long[][] best = new long[MOST_THROWN + 1][MOST_THROWN + 1];
        long scale = 1;

        /** From the last of n turns back to the turn of this number. */
        void foresee(long[] winds, int n, int from) {
            scale = 1;
            for (int j = 0; j <= MOST_THROWN; j++) {
                for (int e = 0; e <= MOST_THROWN; e++) {
                    best[j][e] = e == 0 ? 1 : 0;
                }
            }
            for (int turn = n - 1; turn >= from; turn--) {
                foreseeTurn(winds[turn]);
                scale *= SIXTEEN;
            }
        }

        /** With more JARS first: a throw asks for the later turn's odds with fewer. */
        private void foreseeTurn(long wind) {
            for (int j = MOST_THROWN; j >= 0; j--) {
                for (int e = MOST_THROWN; e >= 0; e--) {
                    best[j][e] = Math.max(kept(j, e), thrown(wind, j, e));
                }
            }
        }

        long kept(int jars, int ships) {
            return SIXTEEN * best[jars][ships];
        }

        /** Where there is nothing to throw, or nothing to burn, it is no better than none. */
        long thrown(long wind, int jars, int ships) {
            if (jars <= 0 || ships <= 0) {
                return kept(jars, ships);
            }
            return wind * best[jars - 1][ships - 1] + (SIXTEEN - wind) * best[jars - 1][ships];
        }
    }
}
