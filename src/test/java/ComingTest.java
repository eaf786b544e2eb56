/** Promises 40 to 46: what comes. */
public final class ComingTest {
    public static void main(String[] args) {
        partsAreLost();
        theCraftIsWhole();
        whatIsKnownThen();
        theStoreThen();
        paces();
        jarsForYears();
        rustAsItIsNow();
        handsDie();
        nothingComesTrueByAsking();
        Bench.end();
    }

    private static void partsAreLost() {
        SeaFire x = Bench.of(Bench.CITY);
        Bench.due("pump fades in 5", x.lostIn(0), 5);
        Bench.refused(x, "heat is WRITTEN", x.lostIn(1), 8);
        Bench.due("juice fades in 7", x.lostIn(2), 7);
        Bench.refused(x, "lostIn(3)", x.lostIn(3), 2);
        Bench.refused(x, "lostIn(-1)", x.lostIn(-1), 2);
        x.note(1, false);
        Bench.due("heat fades in 9", x.lostIn(1), 9);
        x.rule(0, 58);
        Bench.due("ann DIES in 8", x.lostIn(1), 8);
        x.year(2);
        Bench.due("RUST counts", x.lostIn(0), 3);
        x.capture(0);
        Bench.due("not KNOWN now", x.lostIn(1), 0);
        SeaFire late = Bench.of("life 99;part a fades 99;hand h age 0 knows a;");
        Bench.due("99 YEARS", late.lostIn(0), 99);
        for (int i = 0; i < 101; i++) {
            late.year(99);
        }
        late.hire(0, 0);
        Bench.due("9,999 does not matter", late.knownIn(200), 0);
    }

    private static void theCraftIsWhole() {
        SeaFire x = Bench.of(Bench.CITY);
        Bench.due("wholeFor()", x.wholeFor(), 5);
        x.note(0, true);
        Bench.due("wholeFor()", x.wholeFor(), 7);
        x.note(2, true);
        Bench.refused(x, "all is WRITTEN", x.wholeFor(), 8);
        Bench.due("no PARTS", new SeaFire().wholeFor(), 0);
        SeaFire lost = Bench.of("part a;");
        Bench.due("not WHOLE now", lost.wholeFor(), 0);
        Bench.due("status()", lost.status(), 0);
    }

    private static void whatIsKnownThen() {
        SeaFire x = Bench.of(Bench.CITY);
        Bench.due("knownIn(0)", x.knownIn(0), 7);
        Bench.due("knownIn(4)", x.knownIn(4), 7);
        Bench.due("knownIn(5)", x.knownIn(5), 6);
        Bench.due("knownIn(7)", x.knownIn(7), 2);
        Bench.due("knownIn(200)", x.knownIn(200), 2);
        Bench.refused(x, "knownIn(201)", x.knownIn(201), 5);
        Bench.refused(x, "knownIn(-1)", x.knownIn(-1), 5);
        SeaFire again = Bench.of("part a fades 2 written;hand h age 1;");
        again.year(2);
        again.teach(0, 0, 0);
        again.note(0, false);
        Bench.due("RUSTS too long, but is KNOWN now", again.knownIn(0), 1);
        Bench.due("not in the next YEAR", again.knownIn(1), 0);
        Bench.due("lostIn(0)", again.lostIn(0), 1);
    }

    private static void theStoreThen() {
        SeaFire x = Bench.of(Bench.CITY);
        x.supply(10, true);
        Bench.due("storeIn(0)", x.storeIn(0), 10);
        Bench.due("storeIn(3)", x.storeIn(3), 28);
        x.rule(1, 90);
        Bench.due("storeIn(200)", x.storeIn(200), 3010);
        x.supply(9000, true);
        Bench.due("9,999 at most", x.storeIn(200), 9999);
        Bench.refused(x, "storeIn(201)", x.storeIn(201), 5);
        Bench.refused(x, "storeIn(-1)", x.storeIn(-1), 5);
    }

    private static void paces() {
        SeaFire x = Bench.of(Bench.CITY);
        Bench.due("pace()", x.pace(), 4);
        x.year(3);
        Bench.due("whatever the RUST", x.pace(), 4);
        Bench.due("fades in 1", Bench.of("part a;part b fades 1 written;").pace(), 0);
        Bench.due("fades in 99", Bench.of("part a fades 99;").pace(), 98);
        SeaFire none = new SeaFire();
        Bench.refused(none, "no PARTS", none.pace(), 8);
    }

    private static void jarsForYears() {
        SeaFire x = Bench.of(Bench.CITY);
        int[] jars = {0, 0, 0, 0, 0, 1, 1, 1, 1, 2, 2, 2, 2, 3};
        for (int years = 0; years < jars.length; years++) {
            Bench.due("jarsFor(" + years + ")", x.jarsFor(years), jars[years]);
        }
        Bench.due("jarsFor(200)", x.jarsFor(200), 49);
        Bench.refused(x, "jarsFor(201)", x.jarsFor(201), 5);
        Bench.refused(x, "jarsFor(-1)", x.jarsFor(-1), 5);
        SeaFire none = new SeaFire();
        Bench.refused(none, "no PARTS", none.jarsFor(0), 8);
        Bench.refused(none, "5 ahead of 8", none.jarsFor(201), 5);
        SeaFire quick = Bench.of("part a fades 1;");
        Bench.due("no YEAR", quick.jarsFor(0), 0);
        Bench.refused(quick, "it FADES whatever is done", quick.jarsFor(1), 8);
        Bench.due("a JAR each YEAR", Bench.of("part a fades 2;").jarsFor(10), 9);
    }

    private static void rustAsItIsNow() {
        SeaFire x = Bench.of(Bench.CITY);
        x.year(3);
        Bench.due("one YEAR more", x.jarsFor(1), 0);
        Bench.due("jarsFor(2)", x.jarsFor(2), 1);
        Bench.due("jarsFor(5)", x.jarsFor(5), 1);
        Bench.due("jarsFor(6)", x.jarsFor(6), 2);
        x.year(1);
        Bench.due("USED at once", x.jarsFor(1), 1);
        Bench.due("jarsFor(4)", x.jarsFor(4), 1);
        Bench.due("jarsFor(5)", x.jarsFor(5), 2);
        x.year(3);
        Bench.due("no YEAR", x.jarsFor(0), 0);
        Bench.due("RUSTS too long: USED at once", x.jarsFor(4), 1);
        SeaFire other = Bench.of("part a fades 10;part b fades 4 written;hand h age 1 knows a;jars 9;");
        other.use();
        other.year(2);
        Bench.due("b is next", other.jarsFor(1), 0);
        Bench.due("b is next", other.jarsFor(2), 1);
    }

    private static void handsDie() {
        SeaFire x = Bench.of(Bench.CITY);
        Bench.due("dies(0)", x.dies(0), 10);
        Bench.due("dies(3)", x.dies(3), 40);
        x.rule(0, 10);
        Bench.due("too old: in the next YEAR", x.dies(0), 1);
        x.rule(0, 60);
        Bench.refused(x, "dies(4)", x.dies(4), 2);
        Bench.refused(x, "dies(-1)", x.dies(-1), 2);
        x.year(3);
        Bench.due("dies(0)", x.dies(0), 7);
        Bench.refused(x, "dead", x.dies(2), 8);
        x.capture(1);
        Bench.refused(x, "CAPTURED", x.dies(1), 8);
    }

    private static void nothingComesTrueByAsking() {
        SeaFire x = Bench.of(Bench.CITY);
        x.lostIn(1);
        x.wholeFor();
        x.knownIn(200);
        x.storeIn(200);
        x.jarsFor(200);
        Bench.due("living", x.many(8), 15);
        Bench.due("the YEAR", x.many(6), 0);
        Bench.due("store", x.many(7), 0);
        Bench.due("RUST", x.part(0, 3), 0);
        Bench.due("KNOWN", x.many(9), 7);
    }
}
