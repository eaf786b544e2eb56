import java.util.ArrayList;
import java.util.List;

/** What the tests of boundary cases share: the last number that is allowed, and the first that is not. */
final class Edges {
    /** A call with one number that has bounds; it gives NONE if it is refused, a boolean's false too. */
    interface Call {
        long on(SeaFire x, int v);
    }

    interface Start {
        SeaFire make();
    }

    interface Reading {
        long of(SeaFire x);
    }

    private static final int[] PLACES = {0, 1, 2, 3, 58, 59};

    private Edges() {
    }

    static long answer(boolean done) {
        return done ? 1 : SeaFire.NONE;
    }

    /** An object with something of all that a refused call could change. */
    static SeaFire rich() {
        SeaFire x = Bench.of(Bench.CITY, "use;year 1;any;");
        x.mark();
        x.leak(1, true);
        x.live(3);
        x.mark();
        x.supply(30, true);
        x.year(1);
        Bench.fill(x, 0, 0, 12, 5, 4, 3, 2, 1);
        Bench.fill(x, 1, 1, 1, 0, 2, 1);
        Bench.fill(x, 2, 0, 9, 9);
        x.battle(0, 1, 1, 1);
        Bench.empire(x, "life 5;");
        Bench.tape(x, Bench.bytes("jars 77;hand z age 3;"));
        return x;
    }

    /** With 0 to 3 laid: sort 0, sixty numbers of 0. */
    static SeaFire fourTrays() {
        SeaFire x = Bench.of(Bench.CITY);
        for (int t = 0; t < 4; t++) {
            x.tray(t, 0, 60);
        }
        return x;
    }

    static Start of(String text) {
        return () -> Bench.of(text);
    }

    /** The EMPIRE at so late a YEAR. */
    static SeaFire late(String text, int year) {
        SeaFire x = Bench.of(text);
        for (int left = year; left > 0; left -= 99) {
            x.year(Math.min(99, left));
        }
        Bench.due("the YEAR", x.many(6), year);
        return x;
    }

    static void fine(String call, Start start, Call asked, int v) {
        SeaFire x = start.make();
        long got = asked.on(x, v);
        Bench.due("status() of " + call + " by " + v, x.status(), 0);
        Bench.due(call + " by " + v + " is refused", got == SeaFire.NONE, false);
    }

    /** It gives NONE, and changes nothing but STATUS: an object that was not asked answers the same then. */
    static void refused(String call, Start start, Call asked, int v, int status) {
        SeaFire x = start.make();
        long got = asked.on(x, v);
        Bench.due(call + " by " + v, got, SeaFire.NONE);
        Bench.due("status() of " + call + " by " + v, x.status(), status);
        long[] asIs = probe(start.make());
        long[] then = probe(x);
        for (int i = 0; i < asIs.length && i < then.length; i++) {
            if (asIs[i] != then[i]) {
                Bench.due(call + " by " + v + " changed answer " + i, then[i], asIs[i]);
            }
        }
        Bench.due(call + " by " + v + " changed how many answers", then.length, asIs.length);
    }

    static void refused(String call, Start start, Reading asked, int status) {
        refused(call, start, (x, v) -> asked.of(x), 0, status);
    }

    static void bounds(String call, Start start, Call asked, int least, int most, int status) {
        bounds(call, start, asked, least, most, status, status);
    }

    /** STATUS is 0 from the least to the most, another below and above. */
    static void bounds(String call, Start start, Call asked, int least, int most, int below, int above) {
        fine(call, start, asked, least);
        fine(call, start, asked, most);
        refused(call, start, asked, least - 1, below);
        refused(call, start, asked, Integer.MIN_VALUE, below);
        refused(call, start, asked, most + 1, above);
        refused(call, start, asked, Integer.MAX_VALUE, above);
    }

    /** All that an object answers, but for the tape and what fault() tells. */
    static long[] kept(SeaFire x) {
        List<Long> row = new ArrayList<>();
        keptTo(x, row);
        return row.stream().mapToLong(v -> v).toArray();
    }

    private static void keptTo(SeaFire x, List<Long> row) {
        row.add(x.top());
        row.add(x.bottom());
        for (int t = 0; t < 4; t++) {
            for (int place : PLACES) {
                row.add(x.read(t, place));
                row.add((long) x.status());
            }
        }
        state(x, row);
    }

    /** All that an object answers, and what comes of it when it lives on and is taken back. */
    private static long[] probe(SeaFire x) {
        List<Long> row = new ArrayList<>();
        row.add((long) x.fault(0));
        row.add((long) x.fault(1));
        keptTo(x, row);
        row.add((long) x.feed(0x20202020, 0x20202020, 0x20202020, 0x20202020, 0x20202020));
        row.add((long) x.live(7));
        state(x, row);
        for (int i = 0; i < 4; i++) {
            row.add((long) x.back());
            many(x, row);
        }
        row.add((long) x.empire(8));
        many(x, row);
        return row.stream().mapToLong(v -> v).toArray();
    }

    private static void many(SeaFire x, List<Long> row) {
        for (int what = 0; what < 13; what++) {
            row.add((long) x.many(what));
        }
    }

    private static void state(SeaFire x, List<Long> row) {
        many(x, row);
        for (int p = 0; p < x.many(0); p++) {
            row.add((long) x.part(p, 0) << 32 | (long) x.part(p, 1) << 24 | (long) x.part(p, 2) << 16 | x.part(p, 3) << 8 | x.part(p, 4));
        }
        for (int h = 0; h < x.many(1); h++) {
            row.add((long) x.hand(h, 0) << 24 | x.hand(h, 1) << 16 | x.hand(h, 2) << 8 | x.hand(h, 3));
        }
        for (int s = 0; s < x.many(2); s++) {
            row.add((long) x.spring(s, 0) << 16 | x.spring(s, 1) << 8 | x.spring(s, 2));
        }
        for (int what = 0; what < 5; what++) {
            row.add((long) x.lived(what));
        }
    }

    /** A text that is an EMPIRE. */
    static SeaFire taken(String text) {
        SeaFire x = new SeaFire();
        Bench.empire(x, text);
        Bench.due("status() of the EMPIRE " + text, x.status(), 0);
        Bench.due("fault(0) of the EMPIRE " + text, x.fault(0), 0);
        Bench.due("fault(1) of the EMPIRE " + text, x.fault(1), SeaFire.NONE);
        return x;
    }

    static void faulty(String text, int kind, int place) {
        faulty(Bench.bytes(text), text, kind, place);
    }

    static void faulty(byte[] bytes, String text, int kind, int place) {
        SeaFire x = new SeaFire();
        Bench.tape(x, bytes);
        Bench.refused(x, "the EMPIRE " + text, x.empire(bytes.length), 10);
        Bench.due("fault(0) of the EMPIRE " + text, x.fault(0), kind);
        Bench.due("fault(1) of the EMPIRE " + text, x.fault(1), place);
    }

    /** A text that is EMPIRES of the city. */
    static SeaFire planned(String text, int steps) {
        SeaFire x = Bench.of(Bench.CITY);
        Bench.due("the EMPIRES " + text, Bench.empires(x, text), steps);
        Bench.due("status() of the EMPIRES " + text, x.status(), 0);
        Bench.due("fault(0) of the EMPIRES " + text, x.fault(0), 0);
        Bench.due("fault(1) of the EMPIRES " + text, x.fault(1), SeaFire.NONE);
        return x;
    }

    static void misplanned(String text, int kind, int place) {
        misplanned(Bench.bytes(text), text, kind, place);
    }

    static void misplanned(byte[] bytes, String text, int kind, int place) {
        SeaFire x = Bench.of(Bench.CITY, "use;");
        Bench.tape(x, bytes);
        Bench.refused(x, "the EMPIRES " + text, x.empires(bytes.length), 10);
        Bench.due("fault(0) of the EMPIRES " + text, x.fault(0), kind);
        Bench.due("fault(1) of the EMPIRES " + text, x.fault(1), place);
        Bench.due("the old EMPIRES are left by " + text, x.live(0), 1);
    }
}
