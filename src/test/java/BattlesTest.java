/** Promises 47 to 49: battles. */
public final class BattlesTest {
    public static void main(String[] args) {
        oddsByTheWind();
        oddsAtTheEdges();
        battlesRefused();
        firstThrows();
        jarsThatWin();
        Bench.end();
    }

    private static void odds(SeaFire x, int n, int jars, int ships, long top, long bottom) {
        String call = "battle(0, " + n + ", " + jars + ", " + ships + ")";
        Bench.due(call, x.battle(0, n, jars, ships), true);
        Bench.due("status() of " + call, x.status(), 0);
        Bench.fraction(x, call, top, bottom);
    }

    private static void oddsByTheWind() {
        SeaFire x = new SeaFire();
        Bench.fill(x, 0, 1, 8, 8, 4, 12);
        odds(x, 2, 1, 1, 1, 2);
        odds(x, 2, 2, 1, 3, 4);
        odds(x, 4, 1, 1, 3, 4);
        // 1 - (1/2)(1/2)(3/4)(1/4)
        odds(x, 4, 4, 1, 61, 64);
        // The throws of 8 and 12 are the best two of four: 8, then 12 if it burnt, else 8 and 12.
        odds(x, 2, 2, 2, 1, 4);
        // With two JARS against two: the first must burn, so 8 by 12.
        odds(x, 4, 2, 2, 3, 8);
    }

    private static void oddsAtTheEdges() {
        SeaFire x = new SeaFire();
        x.tray(0, 0, 60);
        odds(x, 0, 12, 0, 1, 1);
        odds(x, 0, 12, 1, 0, 1);
        odds(x, 12, 0, 12, 0, 1);
        odds(x, 12, 12, 1, 0, 1);
        for (int i = 0; i < 12; i++) {
            x.write(0, i, 16);
        }
        odds(x, 12, 12, 12, 1, 1);
        odds(x, 12, 11, 12, 0, 1);
        odds(x, 11, 12, 12, 0, 1);
        for (int i = 0; i < 12; i++) {
            x.write(0, i, 1);
        }
        odds(x, 12, 12, 12, 1, 1L << 48);
        x.write(0, 11, 15);
        odds(x, 12, 12, 12, 15, 1L << 48);
    }

    private static void battlesRefused() {
        SeaFire x = new SeaFire();
        Bench.fill(x, 0, 3, 8, 16, 17, -1, 0, 0, 0, 0, 0, 0, 0, 0, 0);
        Bench.fill(x, 1, 3, 4, 4, 4);
        odds(x, 1, 1, 1, 1, 2);
        Bench.refused(x, "no TRAY", x.battle(4, 99, 99, 99), 1);
        Bench.refused(x, "MISSING", x.battle(2, 99, 99, 99), 3);
        Bench.refused(x, "too few numbers", x.battle(1, 4, 99, 99), 4);
        Bench.refused(x, "too few numbers ahead of too many turns", x.battle(1, 13, 1, 1), 4);
        x.tray(3, 0, 13);
        Bench.refused(x, "too many turns", x.battle(3, 13, 1, 1), 5);
        Bench.due("twelve turns", x.battle(3, 12, 1, 0), true);
        odds(x, 1, 1, 1, 1, 2);
        x.write(3, 0, 17);
        Bench.refused(x, "the first wind of 17", x.battle(3, 1, 1, 1), 5);
        Bench.refused(x, "n below 0", x.battle(1, -1, 1, 1), 5);
        Bench.refused(x, "13 JARS", x.battle(1, 3, 13, 1), 5);
        Bench.refused(x, "JARS below 0", x.battle(1, 3, -1, 1), 5);
        Bench.refused(x, "13 ships", x.battle(1, 3, 1, 13), 5);
        Bench.refused(x, "ships below 0", x.battle(1, 3, 1, -1), 5);
        Bench.refused(x, "a wind of 17", x.battle(0, 3, 1, 1), 5);
        Bench.fraction(x, "all that", 1, 2);
        odds(x, 2, 1, 1, 1, 1);
        x.write(0, 2, 0);
        Bench.refused(x, "a wind of -1", x.battle(0, 4, 1, 1), 5);
    }

    private static void firstThrows() {
        SeaFire x = new SeaFire();
        Bench.fill(x, 0, 0, 8, 12, 4);
        Bench.due("the next is better", x.throwFirst(0, 2, 1, 1), 0);
        Bench.due("there is no next", x.throwFirst(0, 1, 1, 1), 1);
        Bench.fill(x, 3, 0, 12, 8);
        Bench.due("the next is worse", x.throwFirst(3, 2, 1, 1), 1);
        x.write(3, 0, 0);
        Bench.due("no wind now, and one JAR too many", x.throwFirst(3, 2, 2, 1), 0);
        x.tray(3, 0, 0);
        Bench.due("one for each", x.throwFirst(0, 2, 2, 1), 1);
        Bench.due("no JAR", x.throwFirst(0, 2, 0, 1), 0);
        Bench.due("no ship", x.throwFirst(0, 2, 2, 0), 0);
        Bench.due("too many ships", x.throwFirst(0, 2, 2, 3), 0);
        Bench.due("two of three winds", x.throwFirst(0, 3, 2, 2), 1);
        Bench.fill(x, 1, 0, 8, 8);
        Bench.due("the same is not better", x.throwFirst(1, 2, 1, 1), 0);
        Bench.fill(x, 2, 0, 0);
        Bench.due("no wind", x.throwFirst(2, 1, 1, 1), 0);
        Bench.refused(x, "n 0", x.throwFirst(0, 0, 1, 1), 5);
        Bench.refused(x, "no TRAY", x.throwFirst(-1, 0, 1, 1), 1);
        Bench.refused(x, "too few", x.throwFirst(3, 1, 1, 1), 4);
        SeaFire bare = new SeaFire();
        Bench.refused(bare, "MISSING", bare.throwFirst(3, 0, 1, 1), 3);
        Bench.refused(x, "too few", x.throwFirst(0, 4, 1, 1), 4);
        Bench.refused(x, "13 JARS", x.throwFirst(0, 3, 13, 1), 5);
        Bench.refused(x, "13 ships", x.throwFirst(0, 3, 1, 13), 5);
        x.write(0, 1, 17);
        Bench.refused(x, "a wind of 17", x.throwFirst(0, 2, 1, 1), 5);
        Bench.fraction(x, "no FRACTION", 0, 1);
    }

    private static void jarsThatWin() {
        SeaFire x = new SeaFire();
        Bench.fill(x, 0, 0, 8, 8, 8, 8);
        Bench.due("0 sixteenths", x.jarsToWin(0, 4, 12, 0), 0);
        Bench.due("no ships", x.jarsToWin(0, 4, 0, 16), 0);
        Bench.due("8 sixteenths", x.jarsToWin(0, 4, 1, 8), 1);
        Bench.due("9 sixteenths", x.jarsToWin(0, 4, 1, 9), 2);
        Bench.due("12 sixteenths", x.jarsToWin(0, 4, 1, 12), 2);
        Bench.due("14 sixteenths", x.jarsToWin(0, 4, 1, 14), 3);
        Bench.due("15 sixteenths", x.jarsToWin(0, 4, 1, 15), 4);
        Bench.refused(x, "16 sixteenths", x.jarsToWin(0, 4, 1, 16), 8);
        Bench.refused(x, "no turn", x.jarsToWin(0, 0, 1, 1), 8);
        Bench.refused(x, "17 sixteenths", x.jarsToWin(0, 4, 1, 17), 5);
        Bench.refused(x, "-1 sixteenths", x.jarsToWin(0, 4, 1, -1), 5);
        Bench.refused(x, "13 ships", x.jarsToWin(0, 4, 13, 1), 5);
        Bench.refused(x, "n -1", x.jarsToWin(0, -1, 1, 1), 5);
        Bench.refused(x, "too few", x.jarsToWin(0, 5, 1, 1), 4);
        Bench.refused(x, "MISSING", x.jarsToWin(1, 5, 1, 1), 3);
        Bench.refused(x, "no TRAY", x.jarsToWin(4, 5, 1, 1), 1);
        Bench.fill(x, 1, 0, 16, 16, 16, 16, 16, 16, 16, 16, 16, 16, 16, 16);
        Bench.due("twelve for twelve", x.jarsToWin(1, 12, 12, 16), 12);
        x.write(0, 3, -1);
        Bench.refused(x, "a wind of -1", x.jarsToWin(0, 4, 1, 1), 5);
    }
}
