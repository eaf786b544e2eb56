/** The boundary cases of promises 28 to 39, each behind the sentence that names it. */
public final class KnowerEdgesTest {
    private static final String FULL = "part a;part b;part c;part d;part e;part f;"
            + "hand g age 1 knows a;hand h age 1 knows b;hand i age 1 knows c;hand j age 1 knows d;"
            + "hand k age 1 knows e;hand l age 1 knows f;hand m age 1;hand n age 1 knows a b c d e;";

    public static void main(String[] args) {
        whoKnowsAPart();
        setsWithWhatThereIsNoneOf();
        deadOnesInASet();
        noParts();
        allPartsTogether();
        lostByDeath();
        noneCanSell();
        theFewest();
        theLeastPrice();
        fewestThenLeastAsANumber();
        theFewestDeaths();
        safeByKAndD();
        lessonByK();
        lessonOnlyIfItIsMore();
        theFirstHandThenTheFirstPart();
        Bench.end();
    }

    private static SeaFire captured(String text, int... hands) {
        SeaFire x = Bench.of(text);
        for (int h : hands) {
            x.capture(h);
        }
        return x;
    }

    /** "The set of living HANDS that KNOW a PART (2)". */
    private static void whoKnowsAPart() {
        Edges.bounds("knowers()", Edges.of(FULL), (x, p) -> x.knowers(p), 0, 5, 2);
        Edges.refused("knowers() of none", SeaFire::new, x -> x.knowers(0), 2);
        SeaFire x = Bench.of(FULL);
        Bench.due("the first and the last", x.knowers(0), 129);
        Bench.due("one", x.knowers(5), 32);
        x.capture(7);
        Bench.due("the living", x.knowers(0), 1);
        x.capture(0);
        Bench.due("nobody", x.knowers(0), 0);
        Bench.due("status()", x.status(), 0);
    }

    /** "5 a number that can't be (a set with what there is none of ..)". */
    private static void setsWithWhatThereIsNoneOf() {
        Edges.bounds("knownBy() of eight", Edges.of(FULL), (x, set) -> x.knownBy(set), 0, 255, 5);
        Edges.bounds("sells() of eight", Edges.of(FULL), (x, set) -> x.sells(set), 0, 255, 5);
        Edges.bounds("loses() of eight", Edges.of(FULL), (x, set) -> x.loses(set), 0, 255, 5);
        String one = "part a;hand h age 1 knows a;";
        Edges.bounds("knownBy() of one", Edges.of(one), (x, set) -> x.knownBy(set), 0, 1, 5);
        Edges.bounds("sells() of one", Edges.of(one), (x, set) -> x.sells(set), 0, 1, 5);
        Edges.bounds("loses() of one", Edges.of(one), (x, set) -> x.loses(set), 0, 1, 5);
        Edges.bounds("knownBy() of nobody", Edges.of("part a;"), (x, set) -> x.knownBy(set), 0, 0, 5);
        Edges.bounds("sells() of nobody", Edges.of("part a;"), (x, set) -> x.sells(set), 0, 0, 5);
        Edges.bounds("loses() of nobody", Edges.of("part a;"), (x, set) -> x.loses(set), 0, 0, 5);
        SeaFire x = Bench.of(one);
        x.hire(1, 1);
        Bench.due("who is hired counts", x.knownBy(3), 1);
        Bench.refused(x, "but nobody else", x.knownBy(4), 5);
    }

    /** "(dead ones, too)" of knownBy(); "5: somebody in it is dead, too" of sells(); "(dead ones do not count)" of loses(). */
    private static void deadOnesInASet() {
        String text = "life 10;part a;part b;hand h age 9 knows a;hand i age 1 knows a b;";
        for (boolean caught : new boolean[] {false, true}) {
            Edges.Start start = () -> caught ? captured(text, 0) : Edges.late(text, 1);
            Bench.due("knownBy(1)", start.make().knownBy(1), 1);
            Bench.due("loses(1)", start.make().loses(1), 0);
            Bench.due("loses(2)", start.make().loses(2), 3);
            Bench.due("loses(3)", start.make().loses(3), 3);
            Bench.due("sells(2)", start.make().sells(2), 1);
            Edges.refused("sells()", start, (x, set) -> x.sells(set), 1, 5);
            Edges.refused("sells()", start, (x, set) -> x.sells(set), 3, 5);
            Edges.fine("sells()", start, (x, set) -> x.sells(set), 0);
        }
    }

    /** "8: no PARTS" of sells(), behind 5. */
    private static void noParts() {
        Edges.refused("sells() of nobody", SeaFire::new, (x, set) -> x.sells(set), 0, 8);
        Edges.refused("sells()", Edges.of("hand h age 1;"), (x, set) -> x.sells(set), 1, 8);
        Edges.refused("5 ahead of 8", Edges.of("hand h age 1;"), (x, set) -> x.sells(set), 2, 5);
        Edges.refused("5 ahead of 8", () -> captured("hand h age 1;", 0), (x, set) -> x.sells(set), 1, 5);
        Edges.fine("knownBy()", Edges.of("hand h age 1;"), (x, set) -> x.knownBy(set), 1);
        Edges.fine("loses()", Edges.of("hand h age 1;"), (x, set) -> x.loses(set), 1);
    }

    /** "a set of living HANDS can SELL the craft, if they KNOW all PARTS together". */
    private static void allPartsTogether() {
        SeaFire x = Bench.of(FULL);
        Bench.due("all six", x.sells(63), 1);
        for (int h = 0; h < 6; h++) {
            Bench.due("five of six", x.sells(63 & ~(1 << h)), 0);
        }
        Bench.due("two", x.sells(32 | 128), 1);
        Bench.due("all", x.sells(255), 1);
        Bench.due("nobody", x.sells(0), 0);
        x.note(5, true);
        Bench.due("what is WRITTEN is not what they KNOW", x.sells(128), 0);
    }

    /** "by the death of a set of HANDS a PART is LOST, if it is KNOWN now and would not be then". */
    private static void lostByDeath() {
        SeaFire x = Bench.of(FULL);
        Bench.due("one of two that KNOW it", x.loses(1), 0);
        Bench.due("both", x.loses(129), 1);
        Bench.due("the only one", x.loses(32), 32);
        Bench.due("all", x.loses(255), 63);
        Bench.due("nobody", x.loses(0), 0);
        x.note(0, true);
        Bench.due("it is WRITTEN", x.loses(255), 62);
        Bench.due("KNOWN now, though it FADES in a YEAR", Bench.of("part a fades 1;hand h age 1 knows a;").loses(1), 1);
        SeaFire unknown = Bench.of("part a;part b;hand h age 1 knows b;");
        Bench.due("not KNOWN now", unknown.loses(1), 2);
    }

    private static void noneSells(String why, Edges.Start start) {
        Edges.refused("fewest(): " + why, start, x -> x.fewest(), 8);
        Edges.refused("fewestSet(): " + why, start, x -> x.fewestSet(), 8);
        Edges.refused("bribe(): " + why, start, x -> x.bribe(), 8);
        Edges.refused("bribeSet(): " + why, start, x -> x.bribeSet(), 8);
    }

    /** "(8: none can)". */
    private static void noneCanSell() {
        noneSells("no PARTS, no HANDS", SeaFire::new);
        noneSells("no PARTS", Edges.of("hand h age 1;"));
        noneSells("no HANDS", Edges.of("part a written;"));
        noneSells("one PART is missing", Edges.of(FULL.replace("knows f", "")));
        noneSells("it is WRITTEN alone", Edges.of("part a written;part b;hand h age 1 knows b;"));
        noneSells("who KNOWS is CAPTURED", () -> captured("part a;hand h age 1 knows a;hand i age 1;", 0));
        noneSells("who KNOWS is dead", () -> Edges.late("life 10;part a;hand h age 9 knows a;hand i age 1;", 1));
    }

    private static void sellers(String text, int many, int set, int price, int cheapest) {
        SeaFire x = Bench.of(text);
        Bench.due("fewest() of " + text, x.fewest(), many);
        Bench.due("fewestSet() of " + text, x.fewestSet(), set);
        Bench.due("bribe() of " + text, x.bribe(), price);
        Bench.due("bribeSet() of " + text, x.bribeSet(), cheapest);
        Bench.due("status()", x.status(), 0);
    }

    /** "FEWEST that can SELL": one, and as many as there are PARTS. */
    private static void theFewest() {
        sellers("part a;hand h age 1 knows a;", 1, 1, 10, 1);
        sellers(FULL, 2, 160, 20, 160);
        sellers(FULL.replace(" knows a b c d e;", ";"), 6, 63, 60, 63);
        sellers(FULL.replace("hand m age 1", "hand m age 1 knows f e d c b a"), 1, 64, 10, 64);
        sellers(FULL.replace("knows a b c d e;", "knows a b c d e f;"), 1, 128, 10, 128);
    }

    /** "BRIBE: that can SELL for the least PRICE together": 0, and 99 for each. */
    private static void theLeastPrice() {
        sellers("part a;hand h age 1 price 0 knows a;", 1, 1, 0, 1);
        sellers("part a;hand h age 1 price 99 knows a;", 1, 1, 99, 1);
        String six = FULL.replace("age 1 knows", "age 1 price 99 knows").replace(" knows a b c d e;", ";");
        sellers(six, 6, 63, 594, 63);
        sellers("part a;part b;hand h age 1 price 50 knows a b;hand i age 1 price 25 knows a;hand j age 1 price 24 knows b;", 1, 1, 49, 6);
        sellers("part a;part b;hand h age 1 price 49 knows a b;hand i age 1 price 25 knows a;hand j age 1 price 24 knows b;", 1, 1, 49, 1);
        sellers("part a;part b;hand h age 1 price 48 knows a b;hand i age 1 price 25 knows a;hand j age 1 price 24 knows b;", 1, 1, 48, 1);
    }

    /** "of several sets the fewest, then the least as a number". */
    private static void fewestThenLeastAsANumber() {
        sellers("part a;part b;hand i age 1 price 25 knows a;hand j age 1 price 24 knows b;hand h age 1 price 49 knows a b;", 1, 4, 49, 4);
        sellers("part a;hand h age 1 price 0;hand i age 1 price 5 knows a;hand j age 1 price 5 knows a;", 1, 2, 5, 2);
        sellers("part a;hand h age 1 price 6 knows a;hand i age 1 price 5 knows a;hand j age 1 price 5 knows a;", 1, 1, 5, 2);
        sellers("part a;part b;hand g age 1 knows b;hand h age 1 knows a;hand i age 1 knows a;hand j age 1 knows b;", 2, 3, 20, 3);
        sellers("part a;part b;hand g age 1;hand h age 1 knows a;hand i age 1 knows a;hand j age 1 knows b;", 2, 10, 20, 10);
    }

    private static void frailIs(Edges.Start start, int deaths, int part) {
        SeaFire x = start.make();
        Bench.due("frail()", x.frail(), deaths);
        Bench.due("frailPart()", x.frailPart(), part);
        Bench.due("status()", x.status(), 0);
    }

    /** "The fewest deaths by which a PART is LOST (8: none can be)"; "The first PART of those that are LOST by so few (8)". */
    private static void theFewestDeaths() {
        String[] none = {"", "part a;", "part a written;hand h age 1 knows a;", "part a;hand h age 1;", "hand h age 1;"};
        for (String text : none) {
            Edges.refused("frail() of " + text, Edges.of(text), x -> x.frail(), 8);
            Edges.refused("frailPart() of " + text, Edges.of(text), x -> x.frailPart(), 8);
        }
        Edges.refused("frail() of the dead", () -> Edges.late("life 10;part a;hand h age 9 knows a;", 1), x -> x.frail(), 8);
        Edges.refused("frailPart() of the dead", () -> captured("part a;hand h age 9 knows a;", 0), x -> x.frailPart(), 8);
        frailIs(Edges.of(FULL), 1, 5);
        frailIs(Edges.of(FULL.replace(" knows a b c d e;", ";")), 1, 0);
        frailIs(Edges.of("part a;part b;hand h age 1 knows a b;hand i age 1 knows a b;hand j age 1 knows a;"), 2, 1);
        frailIs(Edges.of("part a;part b;hand h age 1 knows a b;hand i age 1 knows a b;"), 2, 0);
        String all = FULL.replaceAll("part (.);", "").replaceAll("knows[^;]*", "");
        frailIs(Edges.of("part x;" + all.replaceAll("age 1 ?", "age 1 knows x")), 8, 0);
        frailIs(() -> captured("part a;part b;hand h age 1 knows a b;hand i age 1 knows a b;hand j age 1 knows a;", 2), 2, 0);
    }

    /** "SAFE by k and d (0 to 8)": "no k living HANDS (or fewer) can SELL it, and no d deaths of living HANDS (or fewer) LOSE a PART". */
    private static void safeByKAndD() {
        Edges.bounds("safe() by k", Edges::rich, (x, k) -> x.safe(k, 1), 0, 8, 5);
        Edges.bounds("safe() by d", Edges::rich, (x, d) -> x.safe(1, d), 0, 8, 5);
        for (int k = 0; k <= 8; k++) {
            for (int d = 0; d <= 8; d++) {
                Bench.due("two SELL, one loses", Bench.of(FULL).safe(k, d), k < 2 && d < 1 ? 1 : 0);
                Bench.due("none SELLS, none loses", Bench.of("part a;hand h age 1;").safe(k, d), 1);
                Bench.due("all is WRITTEN, one SELLS", Bench.of("part a written;hand h age 1 knows a;").safe(k, d), k < 1 ? 1 : 0);
                Bench.due("none SELLS, two lose", Bench.of("part a;part b;hand h age 1 knows a;hand i age 1 knows a;").safe(k, d), d < 2 ? 1 : 0);
                Bench.due("no PARTS", new SeaFire().safe(k, d), 1);
            }
        }
        String six = FULL.replace(" knows a b c d e;", ";");
        Bench.due("five of six", Bench.of(six).safe(5, 0), 1);
        Bench.due("six of six", Bench.of(six).safe(6, 0), 0);
        Bench.due("or fewer", Bench.of(six).safe(8, 0), 0);
    }

    /** "LESSON by k (0 to 8)"; "so that no k living HANDS can SELL it then". */
    private static void lessonByK() {
        String written = "part a written;part b;hand h age 1 knows b;hand i age 1;";
        Edges.bounds("lesson()", Edges.of(written), (x, k) -> x.lesson(k), 0, 8, 5);
        Edges.refused("5 ahead of 8", SeaFire::new, (x, k) -> x.lesson(k), 9, 5);
        for (int k = 0; k <= 8; k++) {
            Bench.due("nobody can SELL it: lesson(" + k + ")", Bench.of(written).lesson(k), 11);
        }
        String text = "part a;part b;hand h age 1 knows a;hand i age 1 knows a;hand j age 1 knows b;hand k age 1;";
        Bench.due("one may SELL it then", Bench.of(text).lesson(0), 1);
        Bench.due("two may", Bench.of(text).lesson(1), 31);
        for (int k = 2; k <= 8; k++) {
            Edges.refused("two can", Edges.of(text), (x, most) -> x.lesson(most), k, 8);
        }
        String three = "part a;part b;part c;hand h age 1 knows a;hand i age 1 knows b;hand j age 1 knows c;"
                + "hand k age 1 knows a;hand l age 1 knows b;";
        Bench.due("two may", Bench.of(three).lesson(1), 2);
        Edges.refused("three, but whoever learns it can with one more", Edges.of(three), (x, most) -> x.lesson(most), 2, 8);
        Bench.due("three may", Bench.of(three + "hand m age 1;").lesson(2), 52);
    }

    /** "only if it is more than now"; "what is KNOWN" that "a living HAND does not KNOW"; "(of all PARTS not WRITTEN)". */
    private static void lessonOnlyIfItIsMore() {
        String[] none = {"", "part a;", "hand h age 1;", "part a;hand h age 1;", "part a;hand h age 1 knows a;hand i age 1 knows a;",
            "part a;part b;hand h age 1 knows a b;hand i age 1;", "part a;part b;hand h age 1 knows a;hand i age 1;",
            "part a written;hand h age 1;", "part a written;part b written;hand h age 1 knows a;hand i age 1;"};
        for (String text : none) {
            Edges.refused("lesson(0) of " + text, Edges.of(text), (x, k) -> x.lesson(k), 0, 8);
        }
        Bench.due("KNOWN now, though it FADES in a YEAR", Bench.of("part a fades 1;hand h age 1 knows a;hand i age 1;").lesson(0), 10);
        String few = "part a written;part b;hand h age 1 knows b;hand i age 1 knows b;hand j age 1;";
        Bench.due("a WRITTEN PART does not count", Bench.of(few).lesson(0), 21);
        Edges.refused("burnt it counts, and is not KNOWN", () -> {
            SeaFire x = Bench.of(few);
            x.note(0, false);
            return x;
        }, (x, k) -> x.lesson(k), 0, 8);
        Edges.refused("what the dead KNEW is not KNOWN", () -> captured("part a;hand h age 1 knows a;hand i age 1;", 0), (x, k) -> x.lesson(k), 0, 8);
        Bench.due("what nobody KNOWS, but is WRITTEN, could be taught, but is not more",
                Bench.of("part a written;part b;hand h age 1;hand i age 1 knows b;").lesson(0), 1);
    }

    /** "of several the first HAND, then the first PART"; "10 times the HAND, and the PART". */
    private static void theFirstHandThenTheFirstPart() {
        String one = "part a;hand h age 1;hand i age 1 knows a;hand j age 1;";
        Bench.due("the first HAND", Bench.of(one).lesson(0), 0);
        Bench.due("status()", Bench.of(one).status(), 0);
        Bench.due("the first that lives", captured(one, 0).lesson(0), 20);
        Edges.refused("nobody else lives", () -> captured(one, 0, 2), (x, k) -> x.lesson(k), 0, 8);
        String all = FULL.replaceAll("knows[^;]*", "").replaceAll("age 1 ?", "age 1 knows a b c d e f");
        Bench.due("the last HAND, the last PART", Bench.of(all.replaceAll("f;$", ";")).lesson(0), 75);
        Bench.due("the last HAND, the first PART", Bench.of(all.replaceAll("a b c d e f;$", "b c d e f;")).lesson(0), 70);
        SeaFire kept = Bench.of(one);
        kept.lesson(0);
        Bench.due("nothing is taught by asking", kept.hand(0, 2), 0);
    }
}
