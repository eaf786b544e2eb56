/** The boundary cases of promises 50 to 54, each behind the sentence that names it. */
public final class EnemyEdgesTest {
    private static final String SIX = "part a ways 9;part b ways 9;part c ways 9;part d ways 9;part e ways 9;part f ways 9;";
    private static final String EIGHT = "hand g age 1 knows a;hand h age 1 knows b;hand i age 1 knows c;hand j age 1 knows d;"
            + "hand k age 1 knows e;hand l age 1 knows f;hand m age 1;hand n age 1 knows a b c d e f;";
    private static final int MOST = Integer.MAX_VALUE;

    /** needed(), sure() or ask() of TRAY 2 by its first n twos. */
    private interface Asked {
        long on(SeaFire x, int n);
    }

    private static final Asked[] CALLS = {(x, n) -> x.needed(2, n), (x, n) -> x.sure(2, n), (x, n) -> x.ask(2, n)};

    public static void main(String[] args) {
        howToTry();
        itHasAll();
        theFewestTries();
        nobodyLives();
        soManyTwos();
        tooFewNumbers();
        setsInATray();
        oneOrZero();
        oneAtLeast();
        inHowManyWays();
        noWay();
        notTwoWays();
        theSetToAsk();
        theFirstThatHolds();
        Bench.end();
    }

    /** "TRIES, one by one (how 0), all at once (1) .. (5)". */
    private static void howToTry() {
        Edges.bounds("tries()", Edges::rich, (x, how) -> x.tries(how), 0, 1, 5);
    }

    /** "0, resp. 1, if it has all"; "for the PARTS that it has not, their WAYS". */
    private static void itHasAll() {
        Bench.due("no PARTS: 0", new SeaFire().tries(0), 0);
        Bench.due("no PARTS: 1", new SeaFire().tries(1), 1);
        SeaFire x = Bench.of(SIX);
        int sum = 54;
        int product = 531441;
        for (int p = 0; p < 6; p++) {
            Bench.due("one by one", x.tries(0), sum);
            Bench.due("all at once", x.tries(1), product);
            x.leak(p, true);
            sum -= 9;
            product /= 9;
        }
        Bench.due("it has all: 0", x.tries(0), 0);
        Bench.due("it has all: 1", x.tries(1), 1);
        Bench.due("status()", x.status(), 0);
        Bench.due("one WAY each: one by one", Bench.of("part a ways 1;part b ways 1;").tries(0), 2);
        Bench.due("one WAY each: all at once", Bench.of("part a ways 1;part b ways 1;").tries(1), 1);
        Bench.due("WRITTEN or not, KNOWN or not", Bench.of("part a ways 2 written;part b ways 3;").tries(1), 6);
    }

    /** "by whose CAPTURE TRIES all at once would be the fewest, of several the first". */
    private static void theFewestTries() {
        Bench.due("who KNOWS all", Bench.of(SIX + EIGHT).worstLoss(), 7);
        Bench.due("of several the first", Bench.of(SIX + EIGHT.replace("knows a b c d e f", "")).worstLoss(), 0);
        Bench.due("of several the first", Bench.of(SIX + "hand g age 1;hand h age 1 knows b;hand i age 1 knows a;").worstLoss(), 1);
        Bench.due("nobody KNOWS a thing", Bench.of(SIX + "hand g age 1;hand h age 1;").worstLoss(), 0);
        Bench.due("no PARTS", Bench.of("hand g age 1;hand h age 1;").worstLoss(), 0);
        Bench.due("one of 9 rather than two of 2", Bench.of("part a ways 2;part b ways 2;part c ways 9;hand g age 1 knows a b;hand h age 1 knows c;").worstLoss(), 1);
        Bench.due("9 and 9", Bench.of("part a ways 3;part b ways 3;part c ways 9;hand g age 1 knows a b;hand h age 1 knows c;").worstLoss(), 0);
        SeaFire x = Bench.of(SIX + EIGHT);
        x.leak(0, true);
        x.capture(7);
        Bench.due("it has all: the first that lives", x.worstLoss(), 0);
    }

    /** "(8: nobody lives)". */
    private static void nobodyLives() {
        Edges.refused("worstLoss() of nobody", SeaFire::new, x -> x.worstLoss(), 8);
        Edges.refused("worstLoss() of PARTS alone", Edges.of(SIX), x -> x.worstLoss(), 8);
        Edges.refused("worstLoss() of the dead", () -> Edges.late("life 10;" + SIX + EIGHT, 99), x -> x.worstLoss(), 8);
        Edges.refused("worstLoss() of the CAPTURED", () -> {
            SeaFire x = Bench.of("part a;hand h age 1 knows a;");
            x.capture(0);
            return x;
        }, x -> x.worstLoss(), 8);
        SeaFire last = Edges.late("life 50;part a;hand g age 49 knows a;hand h age 1;", 1);
        Bench.due("one lives", last.worstLoss(), 1);
    }

    /** An EMPIRE with a TRAY 2 of so many numbers, the ones told first. */
    private static SeaFire told(String text, int many, long... numbers) {
        SeaFire x = Bench.of(text);
        x.tray(2, 3, many);
        for (int i = 0; i < numbers.length; i++) {
            x.write(2, i, numbers[i]);
        }
        return x;
    }

    /** "by the first n (0 to 20) twos of a TRAY". */
    private static void soManyTwos() {
        for (Asked asked : CALLS) {
            Edges.Start start = () -> told(SIX + EIGHT, 60);
            for (int n : new int[] {0, 1, 19, 20}) {
                Edges.fine("by twos", start, asked::on, n);
            }
            for (int n : new int[] {21, 30, -1, Integer.MIN_VALUE, Integer.MIN_VALUE / 2, -1 << 30}) {
                Edges.refused("by twos", start, asked::on, n, 5);
            }
        }
        SeaFire x = told(SIX + EIGHT, 60);
        x.write(2, 38, 1);
        x.write(2, 39, 1);
        Bench.due("the twentieth counts", x.needed(2, 20), 1);
        Bench.due("not for nineteen", x.needed(2, 19), 63);
        x.write(2, 40, 999);
        Bench.due("what stands behind does not matter", x.needed(2, 20), 1);
    }

    /** "4 .. too few numbers", ahead of 5. */
    private static void tooFewNumbers() {
        for (Asked asked : CALLS) {
            for (int n : new int[] {1, 19, 20}) {
                Edges.fine("with as many", () -> told(SIX + EIGHT, 2 * n), asked::on, n);
                Edges.refused("with one less", () -> told(SIX + EIGHT, 2 * n - 1), asked::on, n, 4);
                Edges.refused("with two less", () -> told(SIX + EIGHT, 2 * n), asked::on, n + 1, 4);
            }
            Edges.fine("with none", () -> told(SIX + EIGHT, 0), asked::on, 0);
            Edges.refused("with 60", () -> told(SIX + EIGHT, 60), asked::on, 31, 4);
            Edges.refused("with 60", () -> told(SIX + EIGHT, 60), asked::on, MOST, 4);
            Edges.refused("with 60", () -> told(SIX + EIGHT, 60), asked::on, 1 << 30, 4);
            Edges.refused("with 60, a product beyond an int", () -> told(SIX + EIGHT, 60), asked::on, (1 << 30) + 1, 4);
        }
    }

    /** "a set of HANDS"; "5 .. (a set with what there is none of; a number in a TRAY, too)". */
    private static void setsInATray() {
        for (Asked asked : CALLS) {
            Edges.fine("nobody", () -> told(SIX + EIGHT, 2, 0, 0), asked::on, 1);
            Edges.fine("all", () -> told(SIX + EIGHT, 2, 255, 1), asked::on, 1);
            for (long set : new long[] {256, -1, 1L << 32, (1L << 32) + 1, Long.MIN_VALUE, Long.MAX_VALUE}) {
                Edges.refused("set " + set, () -> told(SIX + EIGHT, 2, set, 1), asked::on, 1, 5);
                Edges.refused("second set " + set, () -> told(SIX + EIGHT, 4, 255, 1, set, 1), asked::on, 2, 5);
                Edges.fine("without the second set " + set, () -> told(SIX + EIGHT, 4, 255, 1, set, 1), asked::on, 1);
            }
            Edges.fine("the one", () -> told("part a;part b;hand h age 1 knows a b;", 2, 1, 1), asked::on, 1);
            Edges.refused("one that is not", () -> told("part a;part b;hand h age 1 knows a b;", 2, 2, 1), asked::on, 1, 5);
            Edges.refused("there is nobody", () -> told("part a;part b;", 2, 1, 0), asked::on, 1, 5);
        }
        Bench.due("dead ones, too, by what they KNOW", Edges.late("life 10;part a;part b;hand h age 9 knows a;", 1).knownBy(1), 1);
        SeaFire dead = told("life 10;part a;part b;hand h age 9 knows a;", 2, 1, 1);
        dead.year(1);
        Bench.due("a dead one could", dead.needed(2, 1), 1);
        SeaFire caught = told("part a;part b;hand h age 9 knows a;", 2, 1, 0);
        caught.capture(0);
        Bench.due("a CAPTURED one could not", caught.needed(2, 1), 2);
    }

    /** "and 1 or 0: whether they could make it together". */
    private static void oneOrZero() {
        for (Asked asked : CALLS) {
            Edges.fine("0", () -> told(SIX + EIGHT, 2, 1, 0), asked::on, 1);
            Edges.fine("1", () -> told(SIX + EIGHT, 2, 255, 1), asked::on, 1);
            for (long could : new long[] {-1, 2, 1L << 32, (1L << 32) + 1, Long.MIN_VALUE, Long.MAX_VALUE}) {
                Edges.refused("could " + could, () -> told(SIX + EIGHT, 2, 255, could), asked::on, 1, 5);
            }
        }
    }

    /** "in how many ways a set of PARTS (one at least) can be NEEDED". */
    private static void oneAtLeast() {
        for (int parts = 0; parts <= 6; parts++) {
            String text = SIX.substring(0, 14 * parts);
            Bench.due(parts + " PARTS", told(text, 0).needed(2, 0), (1 << parts) - 1);
        }
        Bench.due("nobody could: no set of none", told(SIX + EIGHT, 2, 0, 1).needed(2, 1), 0);
        Bench.due("nobody could not: all sets", told(SIX + EIGHT, 2, 0, 0).needed(2, 1), 63);
    }

    private static void inHowManyWays() {
        Bench.due("who KNOWS all could", told(SIX + EIGHT, 2, 128, 1).needed(2, 1), 63);
        Bench.due("who KNOWS all could not", told(SIX + EIGHT, 2, 128, 0).needed(2, 1), 0);
        Bench.due("who KNOWS one could", told(SIX + EIGHT, 2, 1, 1).needed(2, 1), 1);
        Bench.due("who KNOWS one could not", told(SIX + EIGHT, 2, 1, 0).needed(2, 1), 62);
        Bench.due("five together", told(SIX + EIGHT, 2, 31, 1).needed(2, 1), 31);
        Bench.due("five together not", told(SIX + EIGHT, 2, 31, 0).needed(2, 1), 32);
        Bench.due("one and the other", told(SIX + EIGHT, 4, 1, 1, 2, 1).needed(2, 2), 0);
        Bench.due("the same twice", told(SIX + EIGHT, 4, 3, 1, 3, 1).needed(2, 2), 3);
        Bench.due("one and not", told(SIX + EIGHT, 4, 3, 1, 3, 0).needed(2, 2), 0);
        SeaFire all = Bench.of(SIX + EIGHT);
        all.tray(2, 0, 40);
        for (int i = 0; i < 6; i++) {
            all.write(2, 2 * i, 63 & ~(1 << i));
        }
        Bench.due("no five of six could", all.needed(2, 6), 1);
        Bench.due("all six are SURE", all.sure(2, 6), 63);
        Bench.refused(all, "nothing to ask", all.ask(2, 6), 8);
    }

    /** "SURE: a set (.. 8: no way)". */
    private static void noWay() {
        Edges.refused("no way", () -> told(SIX + EIGHT, 2, 0, 1), (x, n) -> x.sure(2, n), 1, 8);
        Edges.refused("no PARTS", () -> told("", 0), (x, n) -> x.sure(2, n), 0, 8);
        Bench.due("one way", told(SIX + EIGHT, 2, 32, 1).sure(2, 1), 32);
        Bench.due("one PART", told("part a;", 0).sure(2, 0), 1);
        Bench.due("all ways: none is SURE", told(SIX, 0).sure(2, 0), 0);
        Bench.due("two ways: the one that is in both", told("part a;part b;hand h age 1 knows a;", 2, 1, 0).sure(2, 1), 2);
        Bench.due("status() of none", told(SIX, 0).status(), 0);
    }

    /** "ASK: a set (.. 8: not two ways, no HANDS)". */
    private static void notTwoWays() {
        Edges.refused("no way", () -> told(SIX + EIGHT, 2, 0, 1), (x, n) -> x.ask(2, n), 1, 8);
        Edges.refused("one way", () -> told(SIX + EIGHT, 2, 1, 1), (x, n) -> x.ask(2, n), 1, 8);
        Edges.refused("one PART", () -> told("part a;hand h age 1 knows a;", 0), (x, n) -> x.ask(2, n), 0, 8);
        Edges.refused("no PARTS", () -> told("hand h age 1;", 0), (x, n) -> x.ask(2, n), 0, 8);
        Edges.refused("no HANDS", () -> told(SIX, 0), (x, n) -> x.ask(2, n), 0, 8);
        Edges.fine("two ways", () -> told("part a;part b;hand h age 1 knows a;", 2, 1, 0), (x, n) -> x.ask(2, n), 1);
        Edges.fine("three ways", () -> told("part a;part b;hand h age 1;", 0), (x, n) -> x.ask(2, n), 0);
        Edges.fine("the dead are HANDS", () -> {
            SeaFire x = told("life 10;part a;part b;hand h age 9 knows a;", 0);
            x.year(1);
            return x;
        }, (x, n) -> x.ask(2, n), 0);
    }

    /** "the set of HANDS (1 to all) for which the greater of both numbers of ways .. is the least, of several the least as a number". */
    private static void theSetToAsk() {
        Bench.due("one HAND", told("part a;part b;hand h age 1;", 0).ask(2, 0), 1);
        Bench.due("31 and 32: the five first", told(SIX + EIGHT.replace(" knows a b c d e f", ""), 0).ask(2, 0), 31);
        Bench.due("who KNOWS five rather", told(SIX + "hand g age 1;hand h age 1 knows a b c d e;", 0).ask(2, 0), 2);
        Bench.due("all of them", told("part a;part b;part c;hand g age 1 knows a;hand h age 1 knows b;", 0).ask(2, 0), 3);
        Bench.due("of several the least", told("part a;part b;part c;hand g age 1 knows c;hand h age 1 knows b;hand i age 1 knows a;", 0).ask(2, 0), 3);
        Bench.due("of several the least: nobody helps", told("part a;part b;hand g age 1;hand h age 1;", 0).ask(2, 0), 1);
        SeaFire last = told(SIX + "hand g age 1;hand h age 1;hand i age 1;hand j age 1;hand k age 1;hand l age 1;hand m age 1;hand n age 1 knows a b c d e;", 0);
        Bench.due("the last alone", last.ask(2, 0), 128);
    }

    /** "STATUS of a call is the first of these that holds": 1, 3, 4, 5, 8. */
    private static void theFirstThatHolds() {
        Edges.Start start = () -> told("", 4, 9, 9);
        Edges.refused("1 ahead of 5", start, x -> x.needed(4, -1), 1);
        Edges.refused("1 ahead of 5", start, x -> x.sure(-1, 99), 1);
        Edges.refused("1 ahead of 8", start, x -> x.ask(4, 0), 1);
        Edges.refused("3 ahead of 5", start, x -> x.needed(3, -1), 3);
        Edges.refused("3 ahead of 8", start, x -> x.sure(3, 0), 3);
        Edges.refused("3 ahead of 4", start, x -> x.ask(3, 99), 3);
        Edges.refused("4 ahead of 5", start, x -> x.needed(2, 3), 4);
        Edges.refused("4 ahead of 5", start, x -> x.sure(2, 21), 4);
        Edges.refused("4 ahead of 8", start, x -> x.ask(2, 3), 4);
        Edges.refused("5 ahead of 8", start, x -> x.sure(2, 1), 5);
        Edges.refused("5 ahead of 8", start, x -> x.ask(2, -1), 5);
    }
}
