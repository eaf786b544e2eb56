/** The boundary cases of promises 47 to 49, each behind the sentence that names it. */
public final class BattleEdgesTest {
    private static final int LEAST = Integer.MIN_VALUE;
    private static final int MOST = Integer.MAX_VALUE;

    /** One of the three calls, by n and a number of its own that can be. */
    private interface Asked {
        long on(SeaFire x, int n);
    }

    private static final Asked[] CALLS = {
        (x, n) -> Edges.answer(x.battle(2, n, 1, 1)),
        (x, n) -> x.throwFirst(2, n, 1, 1),
        (x, n) -> x.jarsToWin(2, n, 1, 0),
    };

    public static void main(String[] args) {
        soManyWinds();
        tooFewNumbers();
        windsOf0To16();
        jarsAndShips();
        sixteenths();
        oddsAtTheEnds();
        theGreatestOdds();
        betterThanNone();
        soManySixteenthsOrMore();
        withNone();
        theFirstThatHolds();
        Bench.end();
    }

    /** Some that can be, then some that can't. */
    private static SeaFire windy() {
        SeaFire x = new SeaFire();
        x.tray(2, 1, 60);
        for (int i = 0; i < 60; i++) {
            x.write(2, i, i < 12 ? 8 : 99);
        }
        x.battle(2, 1, 1, 1);
        return x;
    }

    private static SeaFire blowing(long... winds) {
        SeaFire x = new SeaFire();
        Bench.fill(x, 2, 3, winds);
        return x;
    }

    /** "a TRAY of winds (.. n 0 to 12)"; "(.. 5: n 0, too)" of throwFirst(); what stands behind the first n does not matter. */
    private static void soManyWinds() {
        for (int call = 0; call < 3; call++) {
            Asked asked = CALLS[call];
            for (int n = 0; n <= 12; n++) {
                if (call == 1 && n == 0) {
                    Edges.refused("throwFirst() by n", BattleEdgesTest::windy, asked::on, n, 5);
                } else {
                    Edges.fine("call " + call + " by n", BattleEdgesTest::windy, asked::on, n);
                }
            }
            Edges.refused("call " + call + " by n", Edges::fourTrays, asked::on, 13, 5);
            Edges.refused("call " + call + " by n", Edges::fourTrays, asked::on, 60, 5);
            Edges.refused("call " + call + " by n", Edges::fourTrays, asked::on, -1, 5);
            Edges.refused("call " + call + " by n", Edges::fourTrays, asked::on, LEAST, 5);
        }
    }

    /** "4 .. too few numbers", ahead of 5. */
    private static void tooFewNumbers() {
        for (int call = 0; call < 3; call++) {
            Asked asked = CALLS[call];
            for (int length : new int[] {1, 11, 12}) {
                Edges.Start start = () -> blowing(new long[length]);
                Edges.fine("call " + call + " with as many", start, asked::on, length);
                Edges.refused("call " + call + " with one less", start, asked::on, length + 1, 4);
                Edges.refused("call " + call + " with many less", start, asked::on, MOST, 4);
            }
            Edges.refused("call " + call + " with none", () -> blowing(), asked::on, 1, 4);
            Edges.refused("call " + call + " with 60", Edges::fourTrays, asked::on, 61, 4);
        }
        Edges.fine("battle() with none", () -> blowing(), (x, n) -> Edges.answer(x.battle(2, n, 1, 1)), 0);
        Edges.fine("jarsToWin() with none", () -> blowing(), (x, n) -> x.jarsToWin(2, n, 0, 16), 0);
        Edges.refused("throwFirst() with none", () -> blowing(), (x, n) -> x.throwFirst(2, n, 1, 1), 0, 5);
    }

    /** "n numbers of 0 to 16"; "5 a number that can't be (.. a number in a TRAY, too)". */
    private static void windsOf0To16() {
        long[] not = {-1, 17, 99, 1L << 32, (1L << 32) + 8, Long.MIN_VALUE, Long.MAX_VALUE};
        for (int call = 0; call < 3; call++) {
            Asked asked = CALLS[call];
            for (int place : new int[] {0, 5, 11}) {
                for (long wind : new long[] {0, 16}) {
                    Edges.fine("call " + call + " with " + wind, () -> withWind(place, wind), asked::on, 12);
                }
                for (long wind : not) {
                    Edges.refused("call " + call + " with " + wind, () -> withWind(place, wind), asked::on, place + 1, 5);
                    if (place > 0) {
                        Edges.fine("call " + call + " without " + wind, () -> withWind(place, wind), asked::on, place);
                    }
                }
            }
        }
    }

    private static SeaFire withWind(int place, long wind) {
        SeaFire x = blowing(new long[12]);
        x.write(2, place, wind);
        return x;
    }

    /** "with j JARS (0 to 12) against e ships (0 to 12)" (5). */
    private static void jarsAndShips() {
        Edges.Start start = BattleEdgesTest::windy;
        Edges.bounds("battle() by JARS", start, (x, jars) -> Edges.answer(x.battle(2, 12, jars, 1)), 0, 12, 5);
        Edges.bounds("battle() by ships", start, (x, ships) -> Edges.answer(x.battle(2, 12, 1, ships)), 0, 12, 5);
        Edges.bounds("battle() of no turn by JARS", start, (x, jars) -> Edges.answer(x.battle(2, 0, jars, 1)), 0, 12, 5);
        Edges.bounds("battle() of no turn by ships", start, (x, ships) -> Edges.answer(x.battle(2, 0, 1, ships)), 0, 12, 5);
        Edges.bounds("throwFirst() by JARS", start, (x, jars) -> x.throwFirst(2, 12, jars, 1), 0, 12, 5);
        Edges.bounds("throwFirst() by ships", start, (x, ships) -> x.throwFirst(2, 12, 1, ships), 0, 12, 5);
        Edges.bounds("jarsToWin() by ships", start, (x, ships) -> x.jarsToWin(2, 12, ships, 0), 0, 12, 5);
    }

    /** "so many sixteenths (0 to 16) or more". */
    private static void sixteenths() {
        Edges.bounds("jarsToWin() by sixteenths", BattleEdgesTest::windy, (x, much) -> x.jarsToWin(2, 12, 0, much), 0, 16, 5);
        Edges.refused("5 ahead of 8", () -> blowing(), (x, much) -> x.jarsToWin(2, 0, 1, much), 17, 5);
    }

    private static void odds(SeaFire x, int n, int jars, int ships, long top, long bottom) {
        String call = "battle(2, " + n + ", " + jars + ", " + ships + ")";
        Bench.due(call, x.battle(2, n, jars, ships), true);
        Bench.fraction(x, call, top, bottom);
    }

    /** No ship, no JAR, no turn, one too few of each; winds that always burn, and never; the least odds. */
    private static void oddsAtTheEnds() {
        SeaFire sure = blowing(16, 16, 16, 16, 16, 16, 16, 16, 16, 16, 16, 16);
        for (int n = 0; n <= 12; n++) {
            for (int jars = 0; jars <= 12; jars += 3) {
                int ships = Math.min(n, jars);
                odds(sure, n, jars, ships, 1, 1);
                if (ships < 12) {
                    odds(sure, n, jars, ships + 1, 0, 1);
                }
            }
        }
        SeaFire calm = blowing(0, 0, 0, 0, 0, 0, 0, 0, 0, 0, 0, 0);
        odds(calm, 12, 12, 0, 1, 1);
        odds(calm, 12, 12, 1, 0, 1);
        SeaFire least = blowing(1, 1, 1, 1, 1, 1, 1, 1, 1, 1, 1, 1);
        odds(least, 12, 12, 12, 1, 1L << 48);
        odds(least, 1, 1, 1, 1, 16);
        SeaFire again = blowing(16, 16, 16, 16, 16, 16, 16, 16, 16, 16, 16, 16);
        odds(again, 12, 12, 12, 1, 1);
        odds(again, 0, 12, 12, 0, 1);
        odds(again, 11, 12, 12, 0, 1);
        SeaFire odd = blowing(15, 15, 15, 15, 15, 15, 15, 15, 15, 15, 15, 15);
        odds(odd, 12, 12, 12, 129746337890625L, 1L << 48);
        odds(odd, 12, 12, 1, (1L << 48) - 1, 1L << 48);
    }

    /** "the greatest odds that all burn, by what is best from the last turn back". */
    private static void theGreatestOdds() {
        odds(blowing(4, 8), 2, 1, 1, 1, 2);
        odds(blowing(8, 4), 2, 1, 1, 1, 2);
        odds(blowing(4, 8), 1, 1, 1, 1, 4);
        odds(blowing(4, 8), 2, 2, 1, 5, 8);
        odds(blowing(4, 8), 2, 2, 2, 1, 8);
        // The best two of three are thrown: whoever waits for the 12 keeps both JARS for 8 and 12.
        odds(blowing(4, 8, 12), 3, 2, 2, 3, 8);
        // By 8 first: if it burns, 12 is left, else both can't burn any more.
        odds(blowing(8, 4, 12), 3, 2, 2, 3, 8);
        odds(blowing(8, 8, 8), 3, 2, 1, 3, 4);
        odds(blowing(8, 8, 8), 3, 3, 2, 1, 2);
    }

    private static void first(int due, int jars, int ships, long... winds) {
        SeaFire x = blowing(winds);
        Bench.due("throwFirst() of " + java.util.Arrays.toString(winds) + " by " + jars + " and " + ships,
                x.throwFirst(2, winds.length, jars, ships), due);
        Bench.due("status()", x.status(), 0);
        Bench.fraction(x, "throwFirst() tells none", 0, 1);
    }

    /** "whether a JAR is thrown in the first turn (if that is better than none)": not if it is the same. */
    private static void betterThanNone() {
        first(1, 1, 1, 8);
        first(1, 1, 1, 1);
        first(0, 1, 1, 0);
        first(0, 0, 1, 16);
        first(0, 1, 0, 16);
        first(0, 0, 0, 16);
        first(0, 1, 2, 16);
        first(0, 1, 1, 8, 8);
        first(1, 1, 1, 9, 8);
        first(0, 1, 1, 7, 8);
        first(1, 2, 1, 8, 8);
        first(0, 2, 1, 8, 16);
        first(1, 2, 2, 8, 8);
        first(0, 2, 2, 8, 8, 8);
        first(1, 12, 12, 1, 1, 1, 1, 1, 1, 1, 1, 1, 1, 1, 1);
        first(0, 11, 12, 1, 1, 1, 1, 1, 1, 1, 1, 1, 1, 1, 1);
        first(0, 11, 11, 1, 1, 1, 1, 1, 1, 1, 1, 1, 1, 1, 1);
        first(1, 11, 11, 2, 1, 1, 1, 1, 1, 1, 1, 1, 1, 1, 1);
    }

    /** "The fewest JARS (0 to 12) by which the odds of BATTLE are so many sixteenths (0 to 16) or more". */
    private static void soManySixteenthsOrMore() {
        for (int wind = 0; wind <= 16; wind++) {
            SeaFire x = blowing(wind);
            Bench.due("0 sixteenths", x.jarsToWin(2, 1, 1, 0), 0);
            if (wind > 0) {
                Bench.due("just so many", x.jarsToWin(2, 1, 1, wind), 1);
            }
            if (wind < 16) {
                Bench.refused(x, "one more", x.jarsToWin(2, 1, 1, wind + 1), 8);
            }
        }
        SeaFire halves = blowing(8, 8, 8, 8);
        int[] due = {0, 1, 1, 1, 1, 1, 1, 1, 1, 2, 2, 2, 2, 3, 3, 4};
        for (int much = 0; much < 16; much++) {
            Bench.due("jarsToWin() by " + much, halves.jarsToWin(2, 4, 1, much), due[much]);
        }
        SeaFire sure = blowing(16, 16, 16, 16, 16, 16, 16, 16, 16, 16, 16, 16);
        for (int ships = 0; ships <= 12; ships++) {
            Bench.due("one for each of " + ships, sure.jarsToWin(2, 12, ships, 16), ships);
            Bench.due("none for none of it", sure.jarsToWin(2, 12, ships, 0), 0);
        }
    }

    /** "(.. 8: with none)". */
    private static void withNone() {
        Edges.refused("no turn", () -> blowing(), (x, much) -> x.jarsToWin(2, 0, 1, much), 1, 8);
        Edges.refused("too few turns", () -> blowing(16, 16), (x, much) -> x.jarsToWin(2, 2, 3, much), 1, 8);
        Edges.refused("no wind", () -> blowing(0, 0), (x, much) -> x.jarsToWin(2, 2, 1, much), 1, 8);
        Edges.refused("never sure", BattleEdgesTest::windy, (x, much) -> x.jarsToWin(2, 12, 1, much), 16, 8);
        Edges.refused("far from sure", BattleEdgesTest::windy, (x, much) -> x.jarsToWin(2, 12, 12, much), 1, 8);
        Edges.fine("no ship", () -> blowing(), (x, much) -> x.jarsToWin(2, 0, 0, much), 16);
    }

    /** "STATUS of a call is the first of these that holds": 1, 3, 4, 5, 8. */
    private static void theFirstThatHolds() {
        Edges.refused("1 ahead of 5", BattleEdgesTest::windy, x -> Edges.answer(x.battle(4, 99, 99, 99)), 1);
        Edges.refused("1 ahead of 5", BattleEdgesTest::windy, x -> x.throwFirst(-1, 0, 99, 99), 1);
        Edges.refused("1 ahead of 5", BattleEdgesTest::windy, x -> x.jarsToWin(4, 99, 99, 99), 1);
        Edges.refused("3 ahead of 5", BattleEdgesTest::windy, x -> Edges.answer(x.battle(3, 99, 99, 99)), 3);
        Edges.refused("3 ahead of 5", BattleEdgesTest::windy, x -> x.throwFirst(3, 0, 99, 99), 3);
        Edges.refused("3 ahead of 5", BattleEdgesTest::windy, x -> x.jarsToWin(3, -1, 99, 99), 3);
        Edges.refused("4 ahead of 5", BattleEdgesTest::windy, x -> Edges.answer(x.battle(2, 61, 99, 99)), 4);
        Edges.refused("4 ahead of 5", BattleEdgesTest::windy, x -> x.throwFirst(2, 61, 99, 99), 4);
        Edges.refused("4 ahead of 5", BattleEdgesTest::windy, x -> x.jarsToWin(2, 61, 99, 99), 4);
        Edges.refused("5 ahead of 8", BattleEdgesTest::windy, x -> x.jarsToWin(2, 13, 1, 16), 5);
        Edges.refused("5 ahead of 8", BattleEdgesTest::windy, x -> x.jarsToWin(2, 0, 13, 16), 5);
    }
}
