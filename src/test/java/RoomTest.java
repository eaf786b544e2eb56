import java.lang.management.ManagementFactory;

/** "An object is used for at most 512 calls": the dearest of them answer the same to the last, and make nothing. */
public final class RoomTest {
    private static final int CALLS = 512;
    private static final int SETUP = 60;
    private static final com.sun.management.ThreadMXBean ROOM =
            (com.sun.management.ThreadMXBean) ManagementFactory.getThreadMXBean();
    private static final String FULL = "part a;part b;part c;part d;part e;part f;"
            + "hand g age 1 knows a b;hand h age 1 knows b c;hand i age 1 knows c d;hand j age 1 knows d e;"
            + "hand k age 1 knows e f;hand l age 1 knows f a;hand m age 1;hand n age 1 knows a c e;"
            + "spring o at 1 gives 9;spring p at 2 gives 9;spring q at 3 gives 9;spring r at 4 gives 9;";
    private static final String PLAN = "loop 99;loop 99;when jars=0;any;end;any;when whole;end;end;end;";

    private static SeaFire full() {
        SeaFire x = Bench.of(FULL, PLAN);
        x.tray(0, 3, 60);
        x.tray(1, 0, 12);
        for (int i = 0; i < 12; i++) {
            x.write(1, i, 1 + i);
        }
        return x;
    }

    private interface Call {
        long on(SeaFire x);
    }

    private static final String[] NAMES = {"ask", "sure", "needed", "mean", "lesson", "bribe", "fewestSet", "safe", "lostIn", "wholeFor",
        "jarsFor", "battle", "throwFirst", "jarsToWin", "worstLoss", "copyKnown", "pour", "read"};
    private static final Call[] DEAREST = {
        x -> x.ask(0, 20), x -> x.sure(0, 20), x -> x.needed(0, 20), x -> x.mean(9980, 20) ? x.top() : -1, x -> x.lesson(0),
        x -> x.bribe(), x -> x.fewestSet(), x -> x.safe(8, 8), x -> x.lostIn(5), x -> x.wholeFor(),
        x -> x.jarsFor(200), x -> x.battle(1, 12, 12, 12) ? x.top() : -1, x -> x.throwFirst(1, 12, 12, 12), x -> x.jarsToWin(1, 12, 12, 16),
        x -> x.worstLoss(), x -> x.copyKnown(0), x -> x.pour(0, 0, 0, 1, 59) ? 1 : 0, x -> x.read(0, 59),
    };

    public static void main(String[] args) {
        for (int i = 0; i < DEAREST.length; i++) {
            sameToTheLast(NAMES[i], DEAREST[i]);
        }
        livesToTheLast();
        marksToTheLast();
        longTextsToTheLast();
        Bench.end();
    }

    private static long made() {
        return ROOM.getCurrentThreadAllocatedBytes();
    }

    /** What the machine itself makes at a first call is not counted. */
    private static void makesNothing(String name, long before, long after) {
        Bench.due(name + " makes bytes", after - before > 2000, false);
    }

    private static void sameToTheLast(String name, Call call) {
        SeaFire x = full();
        long first = call.on(x);
        long before = made();
        long last = first;
        for (int i = 0; i < (CALLS - SETUP) / 2; i++) {
            last = call.on(x);
        }
        makesNothing(name, before, made());
        Bench.due(name + " to the last", last, first);
    }

    private static void livesToTheLast() {
        SeaFire x = Bench.of(FULL, PLAN);
        x.live(0);
        long before = made();
        int done = 0;
        for (int i = 0; i < CALLS - SETUP; i++) {
            done = x.live(i);
        }
        makesNothing("live", before, made());
        Bench.due("live to the last", done, 300);
    }

    private static void marksToTheLast() {
        SeaFire x = Bench.of(FULL, PLAN);
        x.mark();
        x.back();
        long before = made();
        int left = 0;
        for (int i = 0; i < 80; i++) {
            x.mark();
            x.mark();
            x.year(99);
            x.hire(1, 1);
            x.back();
            left = x.back();
        }
        makesNothing("mark and back", before, made());
        Bench.due("back to the last", left, 0);
        Bench.due("YEAR", x.many(6), 0);
    }

    private static void longTextsToTheLast() {
        SeaFire x = new SeaFire();
        x.empire(0);
        x.empires(0);
        long before = made();
        int got = 0;
        for (int t = 0; t < 10; t++) {
            for (int i = 0; i < 45; i++) {
                x.feed(0x3B3B3B3B, 0x61206120, 0x39203920, 0x21202020, 0x0A0A0A0A);
            }
            got = x.empire(900);
        }
        makesNothing("feed and empire", before, made());
        Bench.due("a FAULT", got, SeaFire.NONE);
        Bench.due("status()", x.status(), 10);
    }
}
