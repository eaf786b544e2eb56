/** Promises 1 to 8: a new object, STATUS, the FRACTION, TRAYS. */
public final class TraysTest {
    public static void main(String[] args) {
        newObject();
        statusIsOfTheLatestCallThatHasOne();
        fractionIsToldLatest();
        trayIsLaid();
        numbersAreCut();
        numbersAreRead();
        numbersArePoured();
        pourAsksInItsOrder();
        Bench.end();
    }

    private static void newObject() {
        SeaFire x = new SeaFire();
        Bench.due("status()", x.status(), 0);
        Bench.fraction(x, "a new object", 0, 1);
        for (int t = 0; t < 4; t++) {
            Bench.refused(x, "read(" + t + ", 0)", x.read(t, 0), 3);
        }
        long[] many = {0, 0, 0, 70, 100, 0, 0, 0, 0, 0, 0, 0, 0};
        for (int what = 0; what < many.length; what++) {
            Bench.due("many(" + what + ")", x.many(what), many[what]);
        }
        Bench.refused(x, "live(0)", x.live(0), 8);
        Bench.refused(x, "back()", x.back(), 8);
        Bench.due("feed to an empty tape", x.feed(0, 0, 0, 0, 0), 20);
    }

    private static void statusIsOfTheLatestCallThatHasOne() {
        SeaFire x = new SeaFire();
        x.read(0, 0);
        x.fault(0);
        x.feed(0, 0, 0, 0, 0);
        x.top();
        x.bottom();
        Bench.due("status()", x.status(), 3);
        Bench.due("status() again", x.status(), 3);
        x.many(0);
        Bench.due("status()", x.status(), 0);
    }

    private static void fractionIsToldLatest() {
        SeaFire x = new SeaFire();
        Bench.fill(x, 0, 0, 12, 6);
        x.battle(0, 1, 1, 1);
        Bench.fraction(x, "12 sixteenths", 3, 4);
        x.battle(0, 99, 1, 1);
        Bench.fraction(x, "a battle refused", 3, 4);
        x.battle(0, 1, 0, 1);
        Bench.fraction(x, "no JARS", 0, 1);
        x.battle(0, 1, 0, 0);
        Bench.fraction(x, "no ships", 1, 1);
    }

    private static void trayIsLaid() {
        SeaFire x = new SeaFire();
        Bench.due("tray(0, 0, 60)", x.tray(0, 0, 60), true);
        Bench.due("read(0, 59)", x.read(0, 59), 0);
        Bench.refused(x, "read(0, 60)", x.read(0, 60), 4);
        x.write(0, 59, 7);
        Bench.refused(x, "tray(0, 0, 61)", x.tray(0, 0, 61), 5);
        Bench.refused(x, "tray(0, 0, -1)", x.tray(0, 0, -1), 6);
        Bench.refused(x, "tray(4, 0, 1)", x.tray(4, 0, 1), 1);
        Bench.refused(x, "tray(-1, 0, -1)", x.tray(-1, 0, -1), 1);
        Bench.refused(x, "tray(0, 4, 61)", x.tray(0, 4, 61), 1);
        Bench.refused(x, "tray(0, -1, 1)", x.tray(0, -1, 1), 1);
        Bench.refused(x, "tray(0, 0, least)", x.tray(0, 0, Integer.MIN_VALUE), 6);
        Bench.due("the old TRAY stays: read(0, 59)", x.read(0, 59), 7);
        Bench.due("tray(0, 3, 60)", x.tray(0, 3, 60), true);
        Bench.due("a new one is all 0: read(0, 59)", x.read(0, 59), 0);
        Bench.due("tray(1, 2, 0)", x.tray(1, 2, 0), true);
        Bench.refused(x, "read(1, 0)", x.read(1, 0), 4);
        x.tray(2, 0, 3);
        x.write(2, 0, 5);
        x.write(2, 2, 5);
        x.tray(2, 0, 1);
        x.tray(2, 0, 3);
        Bench.due("all 0 again: read(2, 0)", x.read(2, 0), 0);
        Bench.due("all 0 again: read(2, 2)", x.read(2, 2), 0);
    }

    private static void numbersAreCut() {
        SeaFire x = new SeaFire();
        long v = 0x1122334455E6F788L;
        long[] cut = {(byte) v, (short) v, (int) v, v};
        for (int sort = 0; sort < 4; sort++) {
            x.tray(sort, sort, 2);
            Bench.due("write", x.write(sort, 1, v), true);
            Bench.due("read of sort " + sort, x.read(sort, 1), cut[sort]);
            Bench.due("the other place", x.read(sort, 0), 0);
        }
        x.write(0, 0, 128);
        Bench.due("128 of 8 bits", x.read(0, 0), -128);
        x.write(1, 0, 65535);
        Bench.due("65535 of 16 bits", x.read(1, 0), -1);
        Bench.due("status()", x.status(), 0);
        x.write(2, 0, 1L << 31);
        Bench.due("2 to 31 of 32 bits", x.read(2, 0), Integer.MIN_VALUE);
        x.write(3, 0, Long.MIN_VALUE);
        Bench.due("the least of 64 bits", x.read(3, 0), Long.MIN_VALUE);
    }

    private static void numbersAreRead() {
        SeaFire x = new SeaFire();
        x.tray(1, 3, 2);
        Bench.refused(x, "write(4, 0, 1)", x.write(4, 0, 1), 1);
        Bench.refused(x, "write(0, 0, 1)", x.write(0, 0, 1), 3);
        Bench.refused(x, "write(1, 2, 1)", x.write(1, 2, 1), 4);
        Bench.refused(x, "write(1, -1, 1)", x.write(1, -1, 1), 4);
        Bench.refused(x, "read(-1, 0)", x.read(-1, 0), 1);
        Bench.refused(x, "read(0, 9)", x.read(0, 9), 3);
        Bench.refused(x, "read(1, 2)", x.read(1, 2), 4);
        Bench.refused(x, "read(1, -1)", x.read(1, -1), 4);
        x.write(1, 0, -1);
        Bench.due("read(1, 0)", x.read(1, 0), -1);
        Bench.due("status() of a -1 that is there", x.status(), 0);
    }

    private static void numbersArePoured() {
        SeaFire x = new SeaFire();
        Bench.fill(x, 0, 2, 1, 2, 3, 4, 5);
        Bench.fill(x, 1, 2, 9, 9, 9);
        Bench.due("pour(0, 1, 1, 0, 2)", x.pour(0, 1, 1, 0, 2), true);
        Bench.due("status()", x.status(), 0);
        Bench.due("read(1, 0)", x.read(1, 0), 2);
        Bench.due("read(1, 1)", x.read(1, 1), 3);
        Bench.due("read(1, 2)", x.read(1, 2), 9);
        x.pour(0, 0, 0, 1, 4);
        for (int i = 0; i < 5; i++) {
            Bench.due("poured up, as they were: " + i, x.read(0, i), i == 0 ? 1 : i);
        }
        x.pour(0, 2, 0, 0, 3);
        long[] down = {2, 3, 4, 3, 4};
        for (int i = 0; i < 5; i++) {
            Bench.due("poured down, as they were: " + i, x.read(0, i), down[i]);
        }
        Bench.due("none poured", x.pour(0, 0, 1, 0, 0), true);
    }

    private static void pourAsksInItsOrder() {
        SeaFire x = new SeaFire();
        Bench.fill(x, 0, 2, 1, 2, 3);
        Bench.fill(x, 1, 1, 1, 2, 3);
        Bench.fill(x, 2, 2, 1, 2);
        Bench.refused(x, "pour(3, 0, 4, 0, -1)", x.pour(3, 0, 4, 0, -1), 1);
        Bench.refused(x, "pour(-1, 0, 3, 0, -1)", x.pour(-1, 0, 3, 0, -1), 1);
        Bench.refused(x, "pour(0, 0, 3, 0, -1)", x.pour(0, 0, 3, 0, -1), 3);
        Bench.refused(x, "pour(3, 0, 0, 0, -1)", x.pour(3, 0, 0, 0, -1), 3);
        Bench.refused(x, "pour(0, 9, 1, 9, -1)", x.pour(0, 9, 1, 9, -1), 11);
        Bench.refused(x, "pour(0, 9, 2, 9, -1)", x.pour(0, 9, 2, 9, -1), 6);
        Bench.refused(x, "pour(0, 1, 2, 0, 3)", x.pour(0, 1, 2, 0, 3), 4);
        Bench.refused(x, "pour(0, 0, 2, 0, 3)", x.pour(0, 0, 2, 0, 3), 4);
        Bench.refused(x, "pour(0, 2, 2, 0, 2)", x.pour(0, 2, 2, 0, 2), 4);
        Bench.refused(x, "pour(0, 0, 2, 1, 2)", x.pour(0, 0, 2, 1, 2), 4);
        Bench.refused(x, "pour(0, -1, 2, 0, 1)", x.pour(0, -1, 2, 0, 1), 4);
        Bench.refused(x, "pour(0, 0, 2, -1, 1)", x.pour(0, 0, 2, -1, 1), 4);
        Bench.refused(x, "pour with a sum beyond an int", x.pour(0, Integer.MAX_VALUE, 2, 0, Integer.MAX_VALUE), 4);
        Bench.refused(x, "pour of too many", x.pour(0, 0, 0, 0, Integer.MAX_VALUE), 4);
        Bench.due("read(2, 1)", x.read(2, 1), 2);
    }
}
