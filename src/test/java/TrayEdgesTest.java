/** The boundary cases of promises 1 to 8, each behind the sentence that names it. */
public final class TrayEdgesTest {
    public static void main(String[] args) {
        traysAre0To3();
        traysAreMissingAtFirst();
        sortsAre0To3();
        numbersAreCutToTheirSort();
        atMost60Numbers();
        allAre0();
        placesOfATray();
        noneIsToldFromMinusOne();
        soManyNumbersFromAPlaceOn();
        pouredAsTheyWere();
        askedInThisOrder();
        unlikeSorts();
        callsWithoutStatus();
        fractionsWithoutACommonDivisor();
        aNewObject();
        Bench.end();
    }

    /** "TRAYS, 0 to 3"; "1 no such TRAY". */
    private static void traysAre0To3() {
        Edges.bounds("tray()", Edges::rich, (x, t) -> Edges.answer(x.tray(t, 0, 1)), 0, 3, 1);
        Edges.bounds("write()", Edges::fourTrays, (x, t) -> Edges.answer(x.write(t, 0, 1)), 0, 3, 1);
        Edges.bounds("read()", Edges::fourTrays, (x, t) -> x.read(t, 0), 0, 3, 1);
        Edges.bounds("pour() from", Edges::fourTrays, (x, t) -> Edges.answer(x.pour(t, 0, 1, 0, 2)), 0, 3, 1);
        Edges.bounds("pour() to", Edges::fourTrays, (x, t) -> Edges.answer(x.pour(1, 0, t, 0, 2)), 0, 3, 1);
        Edges.bounds("copyKnown()", Edges::fourTrays, (x, t) -> x.copyKnown(t), 0, 3, 1);
        Edges.bounds("battle()", Edges::fourTrays, (x, t) -> Edges.answer(x.battle(t, 1, 1, 1)), 0, 3, 1);
        Edges.bounds("throwFirst()", Edges::fourTrays, (x, t) -> x.throwFirst(t, 1, 1, 1), 0, 3, 1);
        Edges.bounds("jarsToWin()", Edges::fourTrays, (x, t) -> x.jarsToWin(t, 1, 0, 0), 0, 3, 1);
        Edges.bounds("needed()", Edges::fourTrays, (x, t) -> x.needed(t, 1), 0, 3, 1);
        Edges.bounds("sure()", Edges::fourTrays, (x, t) -> x.sure(t, 1), 0, 3, 1);
        Edges.bounds("ask()", Edges::fourTrays, (x, t) -> x.ask(t, 1), 0, 3, 1);
    }

    /** "TRAYS .. are MISSING at first"; "3 the TRAY is MISSING", ahead of 4 and 5. */
    private static void traysAreMissingAtFirst() {
        for (int t = 0; t < 4; t++) {
            Edges.refused("write()", SeaFire::new, (x, tray) -> Edges.answer(x.write(tray, 0, 1)), t, 3);
            Edges.refused("write() to place -1", SeaFire::new, (x, tray) -> Edges.answer(x.write(tray, -1, 1)), t, 3);
            Edges.refused("read()", SeaFire::new, (x, tray) -> x.read(tray, 0), t, 3);
            Edges.refused("copyKnown()", SeaFire::new, (x, tray) -> x.copyKnown(tray), t, 3);
            Edges.refused("battle()", SeaFire::new, (x, tray) -> Edges.answer(x.battle(tray, 0, 0, 0)), t, 3);
            Edges.refused("battle() by 99", SeaFire::new, (x, tray) -> Edges.answer(x.battle(tray, 99, 99, 99)), t, 3);
            Edges.refused("throwFirst()", SeaFire::new, (x, tray) -> x.throwFirst(tray, 0, 0, 0), t, 3);
            Edges.refused("jarsToWin()", SeaFire::new, (x, tray) -> x.jarsToWin(tray, 0, 0, 0), t, 3);
            Edges.refused("jarsToWin() by 99", SeaFire::new, (x, tray) -> x.jarsToWin(tray, 0, 0, 99), t, 3);
            Edges.refused("needed()", SeaFire::new, (x, tray) -> x.needed(tray, 0), t, 3);
            Edges.refused("needed() by -1", SeaFire::new, (x, tray) -> x.needed(tray, -1), t, 3);
            Edges.refused("sure()", SeaFire::new, (x, tray) -> x.sure(tray, 0), t, 3);
            Edges.refused("ask()", SeaFire::new, (x, tray) -> x.ask(tray, 0), t, 3);
            int other = (t + 1) % 4;
            Edges.Start one = () -> laid(other, 0, 1);
            Edges.refused("pour() from", one, (x, tray) -> Edges.answer(x.pour(tray, 0, other, 0, 0)), t, 3);
            Edges.refused("pour() to", one, (x, tray) -> Edges.answer(x.pour(other, 0, tray, 0, 0)), t, 3);
            SeaFire empty = laid(t, 0, 0);
            Bench.refused(empty, "a TRAY of nothing is not MISSING: read()", empty.read(t, 0), 4);
        }
    }

    private static SeaFire laid(int tray, int sort, int many) {
        SeaFire x = new SeaFire();
        Bench.due("tray(" + tray + ", " + sort + ", " + many + ")", x.tray(tray, sort, many), true);
        return x;
    }

    /** "8 bits (sort 0), 16 (1), 32 (2) or 64 (3)"; "1 no such TRAY (or sort)", ahead of 5 and 6. */
    private static void sortsAre0To3() {
        Edges.bounds("tray()", Edges::rich, (x, sort) -> Edges.answer(x.tray(1, sort, 4)), 0, 3, 1);
        Edges.bounds("tray() of a TRAY MISSING", Edges::rich, (x, sort) -> Edges.answer(x.tray(3, sort, 4)), 0, 3, 1);
        Edges.refused("tray() of sort 4, 61 numbers", Edges::rich, x -> Edges.answer(x.tray(0, 4, 61)), 1);
        Edges.refused("tray() of sort -1, -1 numbers", Edges::rich, x -> Edges.answer(x.tray(0, -1, -1)), 1);
        Edges.refused("tray() of 4, 61 numbers", Edges::rich, x -> Edges.answer(x.tray(4, 0, 61)), 1);
        Edges.refused("tray() of -1, -1 numbers", Edges::rich, x -> Edges.answer(x.tray(-1, 0, -1)), 1);
    }

    private static void cut(int sort, long v, long left) {
        SeaFire x = laid(2, sort, 1);
        Bench.due("write()", x.write(2, 0, v), true);
        Bench.due(v + " in a TRAY of sort " + sort, x.read(2, 0), left);
        Bench.due("status()", x.status(), 0);
    }

    /** "with sign; what is written is cut to these." */
    private static void numbersAreCutToTheirSort() {
        for (int sort = 0; sort < 3; sort++) {
            long most = (1L << (8 << sort) - 1) - 1;
            cut(sort, most, most);
            cut(sort, most + 1, -most - 1);
            cut(sort, -most - 1, -most - 1);
            cut(sort, -most - 2, most);
            cut(sort, 2 * most + 1, -1);
            cut(sort, 2 * most + 2, 0);
            cut(sort, Long.MAX_VALUE, -1);
            cut(sort, Long.MIN_VALUE, 0);
        }
        cut(3, Long.MAX_VALUE, Long.MAX_VALUE);
        cut(3, Long.MIN_VALUE, Long.MIN_VALUE);
        cut(3, 1L << 32, 1L << 32);
    }

    /** "A TRAY is a row of so many numbers (at most 60; 5)"; "6 below 0 (a TRAY's length)". */
    private static void atMost60Numbers() {
        Edges.bounds("tray()", Edges::rich, (x, many) -> Edges.answer(x.tray(0, 1, many)), 0, 60, 6, 5);
        SeaFire full = laid(0, 3, 60);
        Bench.due("write(0, 59, 7)", full.write(0, 59, 7), true);
        Bench.due("read(0, 59)", full.read(0, 59), 7);
        Bench.refused(full, "read(0, 60)", full.read(0, 60), 4);
    }

    /** "all 0": those of a TRAY that was there, too. */
    private static void allAre0() {
        SeaFire x = laid(1, 0, 60);
        for (int i = 0; i < 60; i++) {
            x.write(1, i, 5);
        }
        x.tray(1, 0, 1);
        Bench.due("read(1, 0)", x.read(1, 0), 0);
        x.tray(1, 0, 60);
        for (int i = 0; i < 60; i++) {
            Bench.due("read(1, " + i + ")", x.read(1, i), 0);
        }
    }

    /** "4 a place that the TRAY has not". */
    private static void placesOfATray() {
        Edges.bounds("write()", Edges::rich, (x, place) -> Edges.answer(x.write(1, place, 9)), 0, 3, 4);
        Edges.bounds("read()", Edges::rich, (x, place) -> x.read(1, place), 0, 3, 4);
        Edges.bounds("write() to one of 60", Edges::fourTrays, (x, place) -> Edges.answer(x.write(1, place, 9)), 0, 59, 4);
        Edges.bounds("read() of one of 60", Edges::fourTrays, (x, place) -> x.read(1, place), 0, 59, 4);
        Edges.bounds("read() of one", () -> laid(0, 2, 1), (x, place) -> x.read(0, place), 0, 0, 4);
        Edges.refused("read() of none", () -> laid(0, 2, 0), (x, place) -> x.read(0, place), 0, 4);
        Edges.refused("write() to none", () -> laid(0, 2, 0), (x, place) -> Edges.answer(x.write(0, place, 1)), 0, 4);
    }

    /** "STATUS tells NONE from -1". */
    private static void noneIsToldFromMinusOne() {
        SeaFire x = laid(0, 3, 1);
        x.write(0, 0, -1);
        Bench.due("read(0, 0)", x.read(0, 0), -1);
        Bench.due("status() of a -1 that is there", x.status(), 0);
        Bench.refused(x, "read(0, 1)", x.read(0, 1), 4);
    }

    private static SeaFire fourAndThree() {
        SeaFire x = new SeaFire();
        Bench.fill(x, 0, 1, 1, 2, 3, 4);
        Bench.fill(x, 1, 1, 5, 6, 7);
        return x;
    }

    /** "So many numbers from place i on of a TRAY come to place j on of another one"; "6 below 0"; "4 .. too few numbers". */
    private static void soManyNumbersFromAPlaceOn() {
        Edges.Start start = TrayEdgesTest::fourAndThree;
        Edges.bounds("pour() of so many to three", start, (x, many) -> Edges.answer(x.pour(0, 0, 1, 0, many)), 0, 3, 6, 4);
        Edges.bounds("pour() of so many from three", start, (x, many) -> Edges.answer(x.pour(1, 0, 0, 0, many)), 0, 3, 6, 4);
        Edges.bounds("pour() of so many from the last", start, (x, many) -> Edges.answer(x.pour(1, 2, 0, 0, many)), 0, 1, 6, 4);
        Edges.bounds("pour() of so many to the last", start, (x, many) -> Edges.answer(x.pour(0, 0, 1, 2, many)), 0, 1, 6, 4);
        Edges.bounds("pour() of two from there", start, (x, i) -> Edges.answer(x.pour(0, i, 1, 0, 2)), 0, 2, 4);
        Edges.bounds("pour() of two to there", start, (x, j) -> Edges.answer(x.pour(0, 0, 1, j, 2)), 0, 1, 4);
        Edges.bounds("pour() of none from there", start, (x, i) -> Edges.answer(x.pour(0, i, 1, 0, 0)), 0, 4, 4);
        Edges.bounds("pour() of none to there", start, (x, j) -> Edges.answer(x.pour(0, 0, 1, j, 0)), 0, 3, 4);
        Edges.bounds("pour() of all within one", start, (x, many) -> Edges.answer(x.pour(0, 0, 0, 0, many)), 0, 4, 6, 4);
        Edges.bounds("pour() of sixty", Edges::fourTrays, (x, many) -> Edges.answer(x.pour(0, 0, 1, 0, many)), 0, 60, 6, 4);
        Edges.refused("pour() beyond an int", start, x -> Edges.answer(x.pour(0, 2, 1, 0, Integer.MAX_VALUE)), 4);
        Edges.refused("pour() beyond an int", start, x -> Edges.answer(x.pour(0, Integer.MAX_VALUE, 1, 1, 1)), 4);
        Edges.refused("pour() beyond an int", start, x -> Edges.answer(x.pour(0, 0, 1, Integer.MAX_VALUE, 1)), 4);
    }

    private static void rowIs(SeaFire x, int tray, long... row) {
        for (int i = 0; i < row.length; i++) {
            Bench.due("read(" + tray + ", " + i + ")", x.read(tray, i), row[i]);
        }
    }

    /** "another one, or the same, as they were". */
    private static void pouredAsTheyWere() {
        SeaFire up = fourAndThree();
        up.pour(0, 0, 0, 1, 3);
        rowIs(up, 0, 1, 1, 2, 3);
        SeaFire down = fourAndThree();
        down.pour(0, 1, 0, 0, 3);
        rowIs(down, 0, 2, 3, 4, 4);
        SeaFire same = fourAndThree();
        same.pour(0, 1, 0, 1, 3);
        rowIs(same, 0, 1, 2, 3, 4);
        SeaFire last = fourAndThree();
        last.pour(0, 3, 1, 2, 1);
        rowIs(last, 1, 5, 6, 4);
        rowIs(last, 0, 1, 2, 3, 4);
        SeaFire none = fourAndThree();
        none.pour(0, 0, 1, 0, 0);
        rowIs(none, 1, 5, 6, 7);
        SeaFire all = new SeaFire();
        all.tray(0, 3, 60);
        all.tray(3, 3, 60);
        for (int i = 0; i < 60; i++) {
            all.write(0, i, Long.MIN_VALUE + i);
        }
        all.pour(0, 0, 3, 0, 60);
        for (int i = 0; i < 60; i++) {
            Bench.due("all poured: read(3, " + i + ")", all.read(3, i), Long.MIN_VALUE + i);
        }
    }

    /** "1, 3 (either), 11, 6, 4, asked in this order." */
    private static void askedInThisOrder() {
        Edges.refused("1 ahead of 3", Edges::rich, x -> Edges.answer(x.pour(3, -1, 4, -1, -1)), 1);
        Edges.refused("1 ahead of 3", Edges::rich, x -> Edges.answer(x.pour(-1, -1, 3, -1, -1)), 1);
        Edges.refused("1 ahead of 6", Edges::rich, x -> Edges.answer(x.pour(0, -1, 4, -1, -1)), 1);
        Edges.refused("3 ahead of 6", Edges::rich, x -> Edges.answer(x.pour(3, -1, 0, -1, -1)), 3);
        Edges.refused("3 ahead of 4", Edges::rich, x -> Edges.answer(x.pour(0, -1, 3, -1, 1)), 3);
        Edges.refused("3 of both", Edges::rich, x -> Edges.answer(x.pour(3, 0, 3, 0, 0)), 3);
        Edges.refused("11 ahead of 6", Edges::rich, x -> Edges.answer(x.pour(0, -1, 1, -1, -1)), 11);
        Edges.refused("11 ahead of 4", Edges::rich, x -> Edges.answer(x.pour(0, -1, 1, 9, 1)), 11);
        Edges.refused("6 ahead of 4", Edges::rich, x -> Edges.answer(x.pour(0, -1, 2, 9, -1)), 6);
        Edges.refused("4", Edges::rich, x -> Edges.answer(x.pour(0, 0, 2, 9, 1)), 4);
    }

    /** "11 TRAYS of unlike sorts." */
    private static void unlikeSorts() {
        for (int a = 0; a < 4; a++) {
            for (int b = 0; b < 4; b++) {
                SeaFire x = laid(0, a, 1);
                x.tray(1, b, 1);
                Bench.due("pour() of sorts " + a + " and " + b, x.pour(0, 0, 1, 0, 1), a == b);
                Bench.due("status() of sorts " + a + " and " + b, x.status(), a == b ? 0 : 11);
            }
        }
    }

    /** "status(), fault(), feed(), top(), bottom() have none." */
    private static void callsWithoutStatus() {
        for (boolean refused : new boolean[] {false, true}) {
            SeaFire x = new SeaFire();
            Bench.due("many()", x.many(refused ? 13 : 0), refused ? SeaFire.NONE : 0);
            int status = refused ? 5 : 0;
            Bench.due("status()", x.status(), status);
            Bench.due("status() of status()", x.status(), status);
            x.fault(0);
            Bench.due("status() of fault(0)", x.status(), status);
            x.fault(2);
            Bench.due("status() of fault(2)", x.status(), status);
            x.top();
            Bench.due("status() of top()", x.status(), status);
            x.bottom();
            Bench.due("status() of bottom()", x.status(), status);
            for (int i = 0; i < 46; i++) {
                x.feed(0, 0, 0, 0, 0);
            }
            Bench.due("status() of feed() with a full tape", x.status(), status);
        }
    }

    /** "without a common divisor, the bottom above 0; 0 is 0 by 1." */
    private static void fractionsWithoutACommonDivisor() {
        SeaFire x = new SeaFire();
        Bench.fraction(x, "a new object", 0, 1);
        x.tray(0, 0, 1);
        for (int wind = 0; wind <= 16; wind++) {
            x.write(0, 0, wind);
            x.battle(0, 1, 1, 1);
            int divisor = 16;
            while (wind % divisor != 0 || 16 % divisor != 0) {
                divisor--;
            }
            Bench.fraction(x, wind + " sixteenths", wind / divisor, 16 / divisor);
        }
        x.write(0, 0, 17);
        x.battle(0, 1, 1, 1);
        Bench.fraction(x, "a refused one stays as it was told latest", 1, 1);
    }

    /** "TRAYS are MISSING, an EMPIRE of nothing, no EMPIRES, MARKS, an empty tape; STATUS 0, the FRACTION 0 by 1." */
    private static void aNewObject() {
        SeaFire x = new SeaFire();
        Bench.due("status()", x.status(), 0);
        Bench.refused(x, "mean(0, 1)", x.mean(0, 1), 8);
        Bench.refused(x, "lived(0)", x.lived(0), 8);
        Bench.refused(x, "back()", x.back(), 8);
        Bench.refused(x, "empire(1)", x.empire(1), 5);
        Bench.refused(x, "empires(1)", x.empires(1), 5);
        Bench.due("empire(0)", x.empire(0), 0);
        long[] many = {0, 0, 0, 70, 100, 0, 0, 0, 0, 0, 0, 0, 0};
        for (int what = 0; what < many.length; what++) {
            Bench.due("many(" + what + ")", new SeaFire().many(what), many[what]);
        }
    }
}
