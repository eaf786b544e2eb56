/** Promises 28 to 39: who knows. */
public final class KnowersTest {
    public static void main(String[] args) {
        setsOfHandsAndParts();
        whoCanSell();
        whatIsLost();
        fewestAndBribe();
        tiesOfSets();
        frailParts();
        safety();
        lessons();
        Bench.end();
    }

    private static void setsOfHandsAndParts() {
        SeaFire x = Bench.of(Bench.CITY);
        Bench.due("knowers(0)", x.knowers(0), 5);
        Bench.due("knowers(1)", x.knowers(1), 1);
        Bench.refused(x, "knowers(3)", x.knowers(3), 2);
        Bench.refused(x, "knowers(-1)", x.knowers(-1), 2);
        Bench.due("knownBy(0)", x.knownBy(0), 0);
        Bench.due("knownBy(9)", x.knownBy(9), 3);
        Bench.due("knownBy(15)", x.knownBy(15), 7);
        Bench.refused(x, "knownBy(16)", x.knownBy(16), 5);
        Bench.refused(x, "knownBy(-1)", x.knownBy(-1), 5);
        x.year(3);
        Bench.due("the living", x.knowers(0), 1);
        Bench.due("dead ones, too", x.knownBy(4), 5);
    }

    private static void whoCanSell() {
        SeaFire x = Bench.of(Bench.CITY);
        int[] can = {3, 5, 7, 11, 13, 15};
        for (int set = 0; set < 16; set++) {
            boolean sells = java.util.Arrays.binarySearch(can, set) >= 0;
            Bench.due("sells(" + set + ")", x.sells(set), sells ? 1 : 0);
        }
        Bench.refused(x, "sells(16)", x.sells(16), 5);
        Bench.refused(x, "sells(-1)", x.sells(-1), 5);
        x.year(3);
        Bench.refused(x, "the dead do not SELL", x.sells(5), 5);
        x.capture(1);
        Bench.refused(x, "nor do the CAPTURED", x.sells(2), 5);
        SeaFire none = Bench.of("hand a age 1;");
        Bench.refused(none, "no PARTS", none.sells(1), 8);
        Bench.refused(none, "5 ahead of 8", none.sells(2), 5);
        none.capture(0);
        Bench.refused(none, "5 ahead of 8", none.sells(1), 5);
        SeaFire written = Bench.of("part a written;hand h age 1;");
        Bench.due("what is WRITTEN they do not SELL", written.sells(1), 0);
    }

    private static void whatIsLost() {
        SeaFire x = Bench.of(Bench.CITY);
        Bench.due("loses(0)", x.loses(0), 0);
        Bench.due("loses(1)", x.loses(1), 0);
        Bench.due("loses(5)", x.loses(5), 1);
        Bench.due("WRITTEN is not LOST", x.loses(15), 5);
        Bench.refused(x, "loses(16)", x.loses(16), 5);
        Bench.refused(x, "loses(-1)", x.loses(-1), 5);
        x.year(3);
        Bench.due("now ann alone", x.loses(1), 1);
        Bench.due("dead ones do not count", x.loses(4), 0);
        Bench.due("with dead ones", x.loses(7), 5);
        x.capture(1);
        Bench.due("what is not KNOWN now is not LOST", x.loses(15), 1);
    }

    private static void fewestAndBribe() {
        SeaFire x = Bench.of(Bench.CITY);
        Bench.due("fewest()", x.fewest(), 2);
        Bench.due("fewestSet()", x.fewestSet(), 3);
        Bench.due("bribe()", x.bribe(), 13);
        Bench.due("bribeSet()", x.bribeSet(), 3);
        x.capture(1);
        Bench.due("fewestSet()", x.fewestSet(), 5);
        Bench.due("bribe()", x.bribe(), 18);
        x.year(3);
        Bench.refused(x, "fewest()", x.fewest(), 8);
        Bench.refused(x, "fewestSet()", x.fewestSet(), 8);
        Bench.refused(x, "bribe()", x.bribe(), 8);
        Bench.refused(x, "bribeSet()", x.bribeSet(), 8);
        SeaFire dear = Bench.of("part a;part b;hand h age 1 price 50 knows a b;hand i age 1 price 20 knows a;hand j age 1 price 29 knows b;");
        Bench.due("one", dear.fewest(), 1);
        Bench.due("he", dear.fewestSet(), 1);
        Bench.due("two are cheaper", dear.bribe(), 49);
        Bench.due("they", dear.bribeSet(), 6);
        SeaFire all = Bench.of("part a;part b;hand h age 1 price 3 knows a;hand i age 1 price 4 knows b;");
        Bench.due("all of them", all.fewestSet(), 3);
        Bench.due("all of them", all.bribeSet(), 3);
        SeaFire one = Bench.of("part a fades 1;hand h age 1 price 3 knows a;");
        Bench.due("the one", one.fewestSet(), 1);
        Bench.due("the one", one.bribeSet(), 1);
        Bench.due("LOST", one.loses(1), 1);
        SeaFire none = Bench.of("hand h age 1;");
        Bench.refused(none, "no PARTS", none.fewest(), 8);
        Bench.refused(none, "no PARTS", none.bribe(), 8);
    }

    private static void tiesOfSets() {
        SeaFire fewer = Bench.of("part a;part b;hand h age 1 price 20 knows a;hand i age 1 price 20 knows b;hand j age 1 price 40 knows a b;");
        Bench.due("of one PRICE the fewest", fewer.bribeSet(), 4);
        Bench.due("fewest", fewer.fewestSet(), 4);
        SeaFire free = Bench.of("part a;hand h age 1 price 0;hand i age 1 price 0 knows a;hand j age 1 price 0 knows a;");
        Bench.due("of these the least as a number", free.bribeSet(), 2);
        Bench.due("PRICES of 0", free.bribe(), 0);
        Bench.due("status()", free.status(), 0);
        SeaFire least = Bench.of("part a;part b;hand h age 1 knows a;hand i age 1 knows a;hand j age 1 knows b;hand k age 1 knows b;");
        Bench.due("the least as a number", least.fewestSet(), 5);
        Bench.due("the least as a number", least.bribeSet(), 5);
    }

    private static void frailParts() {
        SeaFire x = Bench.of(Bench.CITY);
        Bench.due("frail()", x.frail(), 2);
        Bench.due("the first of those", x.frailPart(), 0);
        x.teach(0, 1, 0);
        Bench.due("frail()", x.frail(), 2);
        Bench.due("frailPart()", x.frailPart(), 2);
        x.note(1, false);
        Bench.due("frail()", x.frail(), 1);
        Bench.due("frailPart()", x.frailPart(), 1);
        x.capture(0);
        Bench.due("what is not KNOWN is not LOST", x.frailPart(), 0);
        SeaFire written = Bench.of("part a written;hand h age 1 knows a;");
        Bench.refused(written, "frail()", written.frail(), 8);
        Bench.refused(written, "frailPart()", written.frailPart(), 8);
        SeaFire none = Bench.of("part a;hand h age 1;");
        Bench.refused(none, "frail()", none.frail(), 8);
    }

    private static void safety() {
        SeaFire x = Bench.of(Bench.CITY);
        for (int k = 0; k <= 8; k++) {
            for (int d = 0; d <= 8; d++) {
                Bench.due("safe(" + k + ", " + d + ")", x.safe(k, d), k < 2 && d < 2 ? 1 : 0);
            }
        }
        for (int[] no : new int[][] {{-1, 0}, {9, 0}, {0, -1}, {0, 9}}) {
            Bench.refused(x, "safe(" + no[0] + ", " + no[1] + ")", x.safe(no[0], no[1]), 5);
        }
        Bench.due("nothing to SELL or LOSE", new SeaFire().safe(8, 8), 1);
        x.capture(1);
        x.year(3);
        Bench.due("nobody can SELL it", x.safe(8, 0), 1);
        Bench.due("but LOSE", x.safe(8, 1), 0);
    }

    private static void lessons() {
        SeaFire x = Bench.of(Bench.CITY);
        Bench.refused(x, "no one lesson helps two PARTS", x.lesson(0), 8);
        Bench.refused(x, "lesson(-1)", x.lesson(-1), 5);
        Bench.refused(x, "lesson(9)", x.lesson(9), 5);
        x.teach(0, 1, 0);
        Bench.due("ann may SELL alone by 0", x.lesson(0), 2);
        Bench.due("but not by 1", x.lesson(1), 32);
        Bench.refused(x, "two can SELL it anyway", x.lesson(2), 8);
        Bench.refused(x, "so can eight", x.lesson(8), 8);
        Bench.due("nothing was taught", x.hand(3, 2), 0);
        SeaFire lost = Bench.of("part a;part b;hand h age 1 knows a;hand i age 1;");
        Bench.refused(lost, "a PART that nobody KNOWS stays at 0", lost.lesson(0), 8);
        SeaFire written = Bench.of("part a written;hand h age 1;");
        Bench.refused(written, "all is WRITTEN", written.lesson(0), 8);
        Bench.due("KNOWN for now", Bench.of("part a fades 1;hand h age 1 knows a;hand i age 1;").lesson(0), 10);
        SeaFire dead = Bench.of("life 20;part a;hand g age 19;hand h age 1 knows a;hand i age 1;");
        Bench.due("the first HAND", dead.lesson(0), 0);
        dead.year(1);
        Bench.due("the first that lives", dead.lesson(0), 20);
        SeaFire none = new SeaFire();
        Bench.refused(none, "nobody", none.lesson(0), 8);
    }
}
