/** Promises 18 to 27: what is done. */
public final class DeedsTest {
    public static void main(String[] args) {
        yearsGoBy();
        partsFade();
        theDeadKeepWhatTheyKnew();
        theYearEnds();
        jarsAreMade();
        jarsAreUsed();
        partsAreTaught();
        partsAreWrittenAndBurnt();
        handsAreCaptured();
        handsAreHired();
        rulesChange();
        jarsAreSupplied();
        theEnemyFindsAndForgets();
        Bench.end();
    }

    private static void yearsGoBy() {
        SeaFire x = Bench.of(Bench.CITY);
        Bench.due("year(2)", x.year(2), 0);
        Bench.due("year(1): cid is 60", x.year(1), 4);
        Bench.due("age", x.hand(2, 0), 60);
        Bench.due("store", x.many(7), 18);
        Bench.due("RUST", x.part(1, 3), 3);
        Bench.due("year(7): ann is 60", x.year(7), 1);
        Bench.due("the dead grow no older", x.hand(2, 0), 60);
        Bench.due("year(30)", x.year(30), 2 | 8);
        Bench.due("the YEAR", x.many(6), 40);
        Bench.refused(x, "year(0)", x.year(0), 5);
        Bench.refused(x, "year(100)", x.year(100), 5);
        Bench.refused(x, "year(-5)", x.year(-5), 5);
        Bench.due("year(99)", x.year(99), 0);
        Bench.due("RUST is 99 at most", x.part(0, 3), 99);
        SeaFire old = Bench.of("life 10;hand a age 99;hand b age 9;hand c age 10;hand d age 8;");
        Bench.due("all that are too old", old.year(1), 7);
        Bench.due("age", old.hand(0, 0), 100);
        Bench.due("age", old.hand(2, 0), 11);
        SeaFire rich = Bench.of("border 5;spring a at 5 gives 99;spring b at 6 gives 99;spring c at 0 gives 99;");
        rich.year(50);
        Bench.due("store", rich.many(7), 9900);
        rich.year(1);
        Bench.due("store is 9,999 at most", rich.many(7), 9999);
    }

    private static void partsFade() {
        SeaFire x = Bench.of("part a fades 3;part b fades 1;hand h age 0 knows a b;hand i age 0 knows a;");
        x.year(1);
        Bench.due("b fades in 1", x.hand(0, 2), 1);
        x.year(1);
        Bench.due("a is KNOWN in 2", x.hand(0, 2), 1);
        x.year(1);
        Bench.due("a fades in 3", x.hand(0, 2) + x.hand(1, 2), 0);
        Bench.due("none is KNOWN", x.many(9), 0);
        SeaFire written = Bench.of("part a fades 2 written;hand h age 0 knows a;");
        written.year(5);
        Bench.due("WRITTEN is KNOWN", written.many(9), 1);
        Bench.due("but not by HANDS", written.hand(0, 2), 0);
        Bench.due("taught again", written.teach(0, 0, 0), 1);
        written.year(1);
        Bench.due("it RUSTS on", written.hand(0, 2), 0);
    }

    private static void theDeadKeepWhatTheyKnew() {
        SeaFire x = Bench.of("life 10;part a fades 2;part b fades 3;hand h age 8 knows a b;hand i age 7 knows a b;hand j age 6 knows a b;");
        x.year(9);
        Bench.due("dies ahead of the fading in the same YEAR", x.hand(0, 2), 3);
        Bench.due("a faded a YEAR ahead of death", x.hand(1, 2), 2);
        Bench.due("both faded ahead", x.hand(2, 2), 0);
        SeaFire c = Bench.of("part a fades 2;hand h age 8 knows a;");
        c.capture(0);
        c.year(9);
        Bench.due("the CAPTURED keep it", c.hand(0, 2), 1);
        Bench.due("knownBy", c.knownBy(1), 1);
    }

    private static void theYearEnds() {
        SeaFire x = new SeaFire();
        for (int i = 0; i < 101; i++) {
            x.year(99);
        }
        Bench.refused(x, "above 9,999", x.year(1), 7);
        Bench.due("the YEAR", x.many(6), 9999);
        Bench.refused(x, "5 ahead of 7", x.year(0), 5);
        SeaFire y = Bench.of("part a;");
        for (int i = 0; i < 100; i++) {
            y.year(99);
        }
        y.year(98);
        Bench.refused(y, "one of two beyond 9,999", y.year(2), 7);
        Bench.due("the YEAR", y.many(6), 9998);
        Bench.due("to 9,999", y.year(1), 0);
        Bench.due("the YEAR", y.many(6), 9999);
    }

    private static void jarsAreMade() {
        SeaFire x = Bench.of(Bench.CITY);
        x.year(3);
        Bench.due("make(18)", x.make(18), 20);
        Bench.due("store", x.many(7), 0);
        Bench.due("RUST", x.part(0, 3) + x.part(1, 3) + x.part(2, 3), 0);
        x.year(1);
        Bench.refused(x, "more than the store has", x.make(7), 9);
        Bench.due("RUST stays", x.part(0, 3), 1);
        Bench.refused(x, "make(0)", x.make(0), 5);
        Bench.refused(x, "make(1000)", x.make(1000), 5);
        x.note(1, false);
        x.capture(0);
        Bench.refused(x, "not WHOLE", x.make(1), 9);
        SeaFire rich = Bench.of("jars 9990;part a;hand h age 1 knows a;");
        rich.supply(1000, true);
        Bench.due("JARS are 9,999 at most", rich.make(999), 9999);
        Bench.due("store", rich.many(7), 1);
        SeaFire now = Bench.of("part a fades 1;hand h age 1 knows a;");
        now.supply(1, true);
        Bench.due("WHOLE for now", now.make(1), 1);
        Bench.due("so it can be USED", now.use(), 0);
        SeaFire none = new SeaFire();
        none.supply(5, true);
        Bench.refused(none, "no PARTS", none.make(1), 9);
    }

    private static void jarsAreUsed() {
        SeaFire x = Bench.of(Bench.CITY);
        x.year(4);
        Bench.due("use()", x.use(), 1);
        Bench.due("RUST", x.part(0, 3) + x.part(1, 3) + x.part(2, 3), 0);
        Bench.due("use()", x.use(), 0);
        Bench.refused(x, "no JAR", x.use(), 9);
        x.supply(1, false);
        x.year(5);
        Bench.refused(x, "not WHOLE", x.use(), 9);
        Bench.due("JARS", x.many(5), 1);
        Bench.due("RUST stays", x.part(0, 3), 5);
        SeaFire none = new SeaFire();
        none.supply(5, false);
        Bench.refused(none, "no PARTS", none.use(), 9);
    }

    private static void partsAreTaught() {
        SeaFire x = Bench.of(Bench.CITY);
        Bench.due("teach(1, 0, 2)", x.teach(1, 0, 2), 7);
        Bench.refused(x, "who KNOWS it", x.teach(2, 0, 2), 9);
        Bench.refused(x, "who does not KNOW it", x.teach(3, 1, 0), 9);
        Bench.due("from what is WRITTEN", x.teach(3, 3, 1), 2);
        Bench.refused(x, "it is WRITTEN, but the other does not KNOW it", x.teach(2, 1, 1), 9);
        Bench.refused(x, "not WRITTEN", x.teach(3, 3, 0), 9);
        Bench.refused(x, "HAND 4", x.teach(4, 0, 0), 2);
        Bench.refused(x, "HAND 4", x.teach(0, 4, 0), 2);
        Bench.refused(x, "PART 3", x.teach(0, 1, 3), 2);
        Bench.refused(x, "PART -1", x.teach(0, 1, -1), 2);
        x.year(3);
        Bench.due("RUST is not taught away", x.part(1, 3), 3);
        Bench.refused(x, "the dead do not teach", x.teach(2, 1, 0), 9);
        Bench.refused(x, "the dead do not learn", x.teach(0, 2, 1), 9);
        Bench.refused(x, "nor by what is WRITTEN", x.teach(2, 2, 1), 9);
        x.capture(0);
        Bench.refused(x, "nor do the CAPTURED", x.teach(0, 1, 0), 9);
    }

    private static void partsAreWrittenAndBurnt() {
        SeaFire x = Bench.of(Bench.CITY);
        Bench.due("note(0, true)", x.note(0, true), true);
        Bench.due("WRITTEN", x.many(10), 3);
        Bench.refused(x, "WRITTEN already", x.note(0, true), 9);
        Bench.due("note(1, false)", x.note(1, false), true);
        Bench.refused(x, "not WRITTEN", x.note(1, false), 9);
        Bench.due("WRITTEN", x.many(10), 1);
        Bench.refused(x, "PART 3", x.note(3, false), 2);
        Bench.refused(x, "PART -1", x.note(-1, true), 2);
        x.capture(0);
        Bench.refused(x, "nobody KNOWS it", x.note(1, true), 9);
        SeaFire w = Bench.of("part a written;");
        Bench.due("burnt", w.note(0, false), true);
        Bench.refused(w, "nobody KNOWS it", w.note(0, true), 9);
    }

    private static void handsAreCaptured() {
        SeaFire x = Bench.of(Bench.CITY);
        Bench.due("capture(1)", x.capture(1), 4);
        Bench.due("capture(3)", x.capture(3), 4);
        Bench.due("capture(0)", x.capture(0), 7);
        Bench.due("living", x.many(8), 4);
        Bench.refused(x, "CAPTURED already", x.capture(0), 9);
        Bench.refused(x, "HAND 4", x.capture(4), 2);
        Bench.refused(x, "HAND -1", x.capture(-1), 2);
        x.year(3);
        Bench.refused(x, "dead", x.capture(2), 9);
        SeaFire w = Bench.of("part a written;hand h age 1;");
        Bench.due("what is WRITTEN it does not get", w.capture(0), 0);
    }

    private static void handsAreHired() {
        SeaFire x = Bench.of(Bench.CITY);
        Bench.due("hire(0, 99)", x.hire(0, 99), 4);
        Bench.due("PRICE", x.hand(4, 1), 99);
        Bench.due("KNOWS nothing", x.hand(4, 2), 0);
        Bench.due("lives", x.hand(4, 3), 0);
        Bench.due("hire(99, 0)", x.hire(99, 0), 5);
        Bench.due("too old", x.year(1), 32);
        for (int[] no : new int[][] {{-1, 0}, {100, 0}, {0, -1}, {0, 100}}) {
            Bench.refused(x, "hire(" + no[0] + ", " + no[1] + ")", x.hire(no[0], no[1]), 5);
        }
        x.hire(1, 1);
        x.hire(1, 1);
        Bench.refused(x, "a ninth", x.hire(1, 1), 7);
        Bench.refused(x, "5 ahead of 7", x.hire(100, 1), 5);
        Bench.due("HANDS", x.many(1), 8);
        SeaFire y = Bench.of("part a written;hand h age 1 knows a;");
        y.mark();
        y.hire(5, 5);
        y.teach(1, 1, 0);
        y.capture(1);
        y.back();
        y.hire(6, 6);
        Bench.due("nothing is left of one taken back", y.hand(1, 2) + y.hand(1, 3), 0);
    }

    private static void rulesChange() {
        SeaFire x = Bench.of(Bench.CITY);
        Bench.due("rule(0, 10)", x.rule(0, 10), true);
        Bench.due("LIFE", x.many(3), 10);
        Bench.due("nobody DIES by that alone", x.many(8), 15);
        Bench.due("but in the next YEAR", x.year(1), 15);
        Bench.due("rule(0, 99)", x.rule(0, 99), true);
        Bench.due("rule(1, 0)", x.rule(1, 0), true);
        x.year(1);
        Bench.due("no SPRING on this side", x.many(7), 6);
        Bench.due("rule(1, 999)", x.rule(1, 999), true);
        x.year(1);
        Bench.due("both", x.many(7), 21);
        for (int[] no : new int[][] {{0, 9}, {0, 100}, {1, -1}, {1, 1000}, {2, 50}, {-1, 50}}) {
            Bench.refused(x, "rule(" + no[0] + ", " + no[1] + ")", x.rule(no[0], no[1]), 5);
        }
        Bench.due("LIFE", x.many(3), 99);
        Bench.due("BORDER", x.many(4), 999);
    }

    private static void jarsAreSupplied() {
        SeaFire x = Bench.of(Bench.CITY);
        Bench.due("supply(3, false)", x.supply(3, false), 5);
        Bench.due("supply(4, true)", x.supply(4, true), 4);
        Bench.due("JARS", x.many(5), 5);
        Bench.due("store", x.many(7), 4);
        Bench.due("supply(9999, false)", x.supply(9999, false), 9999);
        Bench.due("supply(9999, true)", x.supply(9999, true), 9999);
        Bench.refused(x, "supply(0, true)", x.supply(0, true), 5);
        Bench.refused(x, "supply(10000, false)", x.supply(10000, false), 5);
        Bench.refused(x, "supply(-1, false)", x.supply(-1, false), 5);
    }

    private static void theEnemyFindsAndForgets() {
        SeaFire x = Bench.of(Bench.CITY);
        Bench.due("leak(2, true)", x.leak(2, true), true);
        Bench.refused(x, "it is so", x.leak(2, true), 9);
        Bench.due("leak(0, true)", x.leak(0, true), true);
        Bench.due("it has", x.many(11), 5);
        Bench.due("leak(2, false)", x.leak(2, false), true);
        Bench.refused(x, "it is so", x.leak(2, false), 9);
        Bench.due("it has", x.many(11), 1);
        Bench.refused(x, "PART 3", x.leak(3, true), 2);
        Bench.refused(x, "PART -1", x.leak(-1, false), 2);
    }
}
