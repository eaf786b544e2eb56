/** Promises 50 to 54: the enemy. */
public final class EnemyTest {
    public static void main(String[] args) {
        triesOfTheEnemy();
        whoseCaptureIsWorst();
        waysOfNeed();
        whatIsSure();
        whomToAsk();
        whatIsToldWrong();
        Bench.end();
    }

    private static void triesOfTheEnemy() {
        SeaFire x = Bench.of(Bench.CITY);
        Bench.due("one by one", x.tries(0), 9);
        Bench.due("at once", x.tries(1), 24);
        x.leak(1, true);
        Bench.due("one by one", x.tries(0), 5);
        Bench.due("at once", x.tries(1), 6);
        x.leak(0, true);
        x.leak(2, true);
        Bench.due("it has all", x.tries(0), 0);
        Bench.due("it has all", x.tries(1), 1);
        Bench.refused(x, "tries(2)", x.tries(2), 5);
        Bench.refused(x, "tries(-1)", x.tries(-1), 5);
        SeaFire most = Bench.of("part a ways 9;part b ways 9;part c ways 9;part d ways 9;part e ways 9;part f ways 9;");
        Bench.due("9 to 6", most.tries(1), 531441);
        Bench.due("9 by 6", most.tries(0), 54);
    }

    private static void whoseCaptureIsWorst() {
        SeaFire x = Bench.of(Bench.CITY);
        Bench.due("ann: pump and heat, 3 are left", x.worstLoss(), 0);
        x.leak(1, true);
        Bench.due("cid: pump and juice, 1 is left", x.worstLoss(), 2);
        x.year(3);
        Bench.due("he is dead; bob: 2 are left", x.worstLoss(), 1);
        x.leak(0, true);
        x.leak(2, true);
        Bench.due("of several the first", x.worstLoss(), 0);
        x.capture(0);
        Bench.due("the first that lives", x.worstLoss(), 1);
        x.capture(1);
        x.capture(3);
        Bench.refused(x, "nobody lives", x.worstLoss(), 8);
        Bench.due("no PARTS", Bench.of("hand a age 1;").worstLoss(), 0);
        SeaFire one = Bench.of("part a ways 1;part b ways 2;hand h age 1 knows a;hand i age 1 knows b;");
        Bench.due("by WAYS, not by PARTS", one.worstLoss(), 1);
    }

    /** ann: pump heat (3), bob: juice (4), cid: pump juice (5), dot: none (0). */
    private static void waysOfNeed() {
        SeaFire x = Bench.of(Bench.CITY);
        Bench.fill(x, 0, 1, 5, 1, 2, 0, 1, 0);
        Bench.due("nothing told", x.needed(0, 0), 7);
        Bench.due("ann and cid could", x.needed(0, 1), 7);
        Bench.due("bob could not", x.needed(0, 2), 6);
        Bench.due("ann could not", x.needed(0, 3), 3);
        Bench.fill(x, 1, 1, 8, 1);
        Bench.due("dot could: no way", x.needed(1, 1), 0);
        Bench.due("status()", x.status(), 0);
        Bench.fill(x, 1, 1, 0, 0, 0, 1);
        Bench.due("nobody could not", x.needed(1, 1), 7);
        Bench.due("nobody could", x.needed(1, 2), 0);
        x.year(3);
        Bench.fill(x, 1, 1, 4, 1);
        Bench.due("dead ones, too, by what they KNEW", x.needed(1, 1), 3);
        Bench.due("no PARTS", none().needed(0, 0), 0);
    }

    private static SeaFire none() {
        SeaFire x = new SeaFire();
        x.tray(0, 0, 0);
        return x;
    }

    private static void whatIsSure() {
        SeaFire x = Bench.of(Bench.CITY);
        Bench.fill(x, 0, 1, 2, 0, 1, 0, 4, 0);
        Bench.due("nothing told", x.sure(0, 0), 0);
        Bench.due("status()", x.status(), 0);
        Bench.due("bob could not", x.sure(0, 1), 0);
        Bench.due("nor ann: juice and one more", x.sure(0, 2), 4);
        Bench.due("nor cid: heat and juice", x.sure(0, 3), 6);
        Bench.due("ways", x.needed(0, 3), 2);
        Bench.fill(x, 1, 0, 8, 1);
        Bench.refused(x, "no way", x.sure(1, 1), 8);
        Bench.fill(x, 1, 0, 2, 1);
        Bench.due("bob could: juice", x.sure(1, 1), 4);
        SeaFire one = Bench.of("part a;part b;hand h age 1 knows a;");
        Bench.fill(one, 0, 0, 1, 1);
        Bench.due("a", one.sure(0, 1), 1);
    }

    private static void whomToAsk() {
        SeaFire x = Bench.of(Bench.CITY);
        Bench.fill(x, 0, 1, 5, 1, 2, 0);
        Bench.due("ann: 3 could, 4 could not", x.ask(0, 0), 1);
        Bench.due("bob could not: ann 3, 3", x.ask(0, 2), 1);
        Bench.fill(x, 1, 1, 1, 0, 2, 0);
        // Left: pump juice, heat juice, all. cid could by the first alone.
        Bench.due("ann, bob could not: cid", x.ask(1, 2), 4);
        Bench.fill(x, 2, 1, 1, 0, 2, 0, 4, 0);
        // Left: heat juice, all; nobody but ann with bob or cid could tell, and both could.
        Bench.due("two ways: whoever it is, one of them is the greater", x.ask(2, 3), 1);
        SeaFire all = Bench.of("part a;part b;hand h age 1 knows a;hand i age 1 knows b;");
        Bench.fill(all, 0, 1, 1, 0);
        // Left: b, both. By h none could, by i one, by both two.
        Bench.due("i", all.ask(0, 1), 2);
        Bench.fill(x, 2, 1, 2, 1);
        Bench.refused(x, "one way", x.ask(2, 1), 8);
        Bench.fill(x, 2, 1, 8, 1);
        Bench.refused(x, "no way", x.ask(2, 1), 8);
        SeaFire nobody = Bench.of("part a;part b;");
        nobody.tray(0, 0, 0);
        Bench.refused(nobody, "no HANDS", nobody.ask(0, 0), 8);
        x.year(3);
        Bench.due("the dead may be asked, too", x.ask(1, 2), 4);
    }

    private static void whatIsToldWrong() {
        SeaFire x = Bench.of(Bench.CITY);
        x.tray(0, 3, 60);
        Bench.fill(x, 1, 3, 1, 0, 16, 0);
        Bench.fill(x, 2, 3, 1, 2, -1, 0);
        refusedAll(x, 4, 99, 1);
        refusedAll(x, -1, 0, 1);
        refusedAll(x, 3, 0, 3);
        refusedAll(x, 1, 3, 4);
        refusedAll(x, 0, 31, 4);
        refusedAll(x, 0, Integer.MAX_VALUE, 4);
        refusedAll(x, 0, 21, 5);
        refusedAll(x, 0, -1, 5);
        refusedAll(x, 0, Integer.MIN_VALUE, 5);
        refusedAll(x, 1, 2, 5);
        refusedAll(x, 2, 1, 5);
        x.write(2, 1, 0);
        refusedAll(x, 2, 2, 5);
        Bench.due("twenty twos", x.needed(0, 20), 7);
        x.write(0, 40, 16);
        Bench.due("the one behind them does not matter", x.needed(0, 20), 7);
        x.write(0, 0, 1L << 32);
        refusedAll(x, 0, 1, 5);
    }

    private static void refusedAll(SeaFire x, int tray, int n, int status) {
        String twos = "(" + tray + ", " + n + ")";
        Bench.refused(x, "needed" + twos, x.needed(tray, n), status);
        Bench.refused(x, "sure" + twos, x.sure(tray, n), status);
        Bench.refused(x, "ask" + twos, x.ask(tray, n), status);
    }
}
