/** Promises 55 to 59: EMPIRES and MARKS. */
public final class LivesTest {
    public static void main(String[] args) {
        stepsAreDone();
        whatCannotBeIsMissed();
        testsAndLoops();
        threeHundredSteps();
        stops();
        draws();
        yearsBeyond();
        whatIsToldOfALife();
        livesRefused();
        meanOfLives();
        marksAndBack();
        Bench.end();
    }

    private static void told(SeaFire x, int missed, int years, int made, int gone, int left) {
        int[] want = {missed, years, made, gone, left};
        for (int what = 0; what < 5; what++) {
            Bench.due("lived(" + what + ")", x.lived(what), want[what]);
        }
    }

    private static void stepsAreDone() {
        SeaFire x = Bench.of(Bench.CITY, "use;year 2;make 12;teach ann dot pump;teach dot dot heat;write pump;burn heat;capture bob;year 8;");
        Bench.due("live(0)", x.live(0), 9);
        Bench.due("status()", x.status(), 0);
        told(x, 0, 10, 12, 3, 0);
        long[] many = {3, 4, 2, 60, 50, 13, 10, 48, 8, 3, 1, 4, 0};
        for (int what = 0; what < many.length; what++) {
            Bench.due("all is as it is then: many(" + what + ")", x.many(what), many[what]);
        }
        Bench.due("dot's pump faded, but not the heat", x.hand(3, 2), 2);
    }

    private static void whatCannotBeIsMissed() {
        SeaFire x = Bench.of(Bench.CITY, "make 1;teach ann ann pump;teach dot ann juice;write heat;burn pump;capture bob;capture bob;"
                + "use;use;use;teach bob ann juice;");
        Bench.due("live(7)", x.live(7), 11);
        told(x, 8, 0, 0, 1, 0);
        Bench.due("JARS", x.many(5), 0);
    }

    private static void testsAndLoops() {
        SeaFire x = Bench.of(Bench.CITY, "when known pump;use;end;when whole;use;end;when whole;year 5;end;when whole;year 1;end;when known pump;year 1;end;");
        Bench.due("five whens, three within", x.live(0), 8);
        Bench.due("the YEAR", x.many(6), 5);
        Bench.due("JARS", x.many(5), 0);
        SeaFire now = Bench.of("part a fades 1;hand h age 1 knows a;", "when whole;when known a;year 2;end;end;");
        Bench.due("for now", now.live(0), 3);
        SeaFire jars = Bench.of("jars 5;", "when jars<5;year 1;end;when jars<6;year 2;end;when jars>5;year 3;end;when jars>4;year 5;end;when jars=5;year 7;end;when jars=4;year 11;end;");
        Bench.due("live(0)", jars.live(0), 9);
        Bench.due("the YEAR", jars.many(6), 14);
        SeaFire loops = Bench.of("", "loop 3;loop 2;year 1;end;year 2;end;year 1;");
        Bench.due("1 + 3 * (1 + 2 + 1) + 1", loops.live(0), 14);
        Bench.due("the YEAR", loops.many(6), 13);
        SeaFire deep = Bench.of("part a;", "loop 2;when whole;year 1;end;loop 2;when known a;year 1;end;year 3;end;end;");
        Bench.due("1 + 2 * (1 + 1 + 2 * 2)", deep.live(0), 13);
        Bench.due("the YEAR", deep.many(6), 12);
        SeaFire empty = Bench.of("", "loop 99;end;loop 99;loop 99;end;end;year 1;");
        Bench.due("1 + 1 + 99 + 1", empty.live(0), 102);
    }

    private static void threeHundredSteps() {
        SeaFire x = Bench.of("", "loop 99;loop 99;year 1;end;end;");
        Bench.due("at most 300", x.live(0), 300);
        Bench.due("lived(4)", x.lived(4), 1);
        // 1 + 99, then 1 + 99, then 1 + 98 STEPS, the outer loop one more.
        Bench.due("the YEAR", x.many(6), 296);
        SeaFire just = Bench.of("", "loop 99;year 1;end;loop 99;year 1;end;loop 99;year 1;end;");
        Bench.due("300 and no more", just.live(0), 300);
        Bench.due("lived(4)", just.lived(4), 0);
        Bench.due("the YEAR", just.many(6), 297);
        SeaFire over = Bench.of("", "loop 99;year 1;end;loop 99;year 1;end;loop 99;year 1;end;stop;");
        Bench.due("one is left", over.live(0), 300);
        Bench.due("lived(4)", over.lived(4), 1);
        SeaFire empty = Bench.of("", "loop 99;loop 99;loop 99;end;end;end;");
        Bench.due("live(0)", empty.live(0), 300);
        Bench.due("lived(4)", empty.lived(4), 1);
    }

    private static void stops() {
        SeaFire x = Bench.of("", "loop 5;year 1;when jars=0;stop;end;end;year 9;");
        Bench.due("loop, year, when, stop", x.live(0), 4);
        told(x, 0, 1, 0, 0, 0);
        SeaFire none = Bench.of("part a;", "");
        Bench.due("EMPIRES of no STEP", none.live(0), 0);
        Bench.due("status()", none.status(), 0);
    }

    /** From 0: 10,753, by 8 is 1,344, by 5 leaves 4; then 41,884, by 8 is 5,235, by 5 leaves 0. */
    private static void draws() {
        SeaFire x = Bench.of("hand a age 1;hand b age 1;hand c age 1;hand d age 1;hand e age 1;", "any;any;");
        x.live(0);
        int first = 4;
        int second = 0;
        Bench.due("two draws", x.many(8), 31 & ~(1 << first | 1 << second));
        Bench.due("CAPTURED", x.hand(first, 3), 2);
        SeaFire y = Bench.of("hand a age 1;hand b age 1;hand c age 1;", "any;");
        y.live(9999);
        // 9,999 by 2,971 and 10,753 by 65,536 leaves 29974, by 8 is 3746.
        Bench.due("by the seed", y.many(8), 7 & ~(1 << 2));
        SeaFire one = Bench.of("part p;hand a age 1 knows p;", "any;any;");
        Bench.due("live(3)", one.live(3), 2);
        told(one, 1, 0, 0, 1, 0);
        Bench.due("the ENEMY has it", one.many(11), 1);
        SeaFire nobody = Bench.of("", "any;");
        nobody.live(0);
        told(nobody, 1, 0, 0, 0, 0);
        SeaFire hired = Bench.of("hand a age 1;", "any;");
        hired.hire(1, 1);
        hired.hire(1, 1);
        hired.live(0);
        Bench.due("the hired count", hired.many(8), 7 & ~(1 << 1344 % 3));
        // A dead HAND is drawn and MISSED, and the draw is spent.
        SeaFire dead = Bench.of("hand a age 1;hand b age 1;hand c age 1;hand d age 1;hand e age 1;", "any;any;");
        dead.capture(first);
        dead.live(0);
        told(dead, 1, 0, 0, 1, 0);
        Bench.due("the second draw", dead.hand(second, 3), 2);
    }

    private static void yearsBeyond() {
        SeaFire x = Bench.of("spring s at 0 gives 1;", "year 20;year 5;year 1;");
        for (int i = 0; i < 100; i++) {
            x.year(99);
        }
        x.year(89);
        Bench.due("live(0)", x.live(0), 3);
        told(x, 1, 6, 0, 0, 0);
        Bench.due("the YEAR", x.many(6), 9995);
    }

    private static void whatIsToldOfALife() {
        SeaFire x = Bench.of(Bench.CITY, "year 3;make 9;make 9;");
        Bench.refused(x, "lived ahead of any", x.lived(0), 8);
        Bench.refused(x, "5 ahead of 8", x.lived(5), 5);
        x.live(1);
        told(x, 0, 3, 18, 1, 0);
        Bench.refused(x, "lived(5)", x.lived(5), 5);
        Bench.refused(x, "lived(-1)", x.lived(-1), 5);
        x.live(-1);
        x.mean(0, 3);
        told(x, 0, 3, 18, 1, 0);
        x.mark();
        x.live(1);
        told(x, 0, 3, 18, 0, 0);
        x.back();
        Bench.empire(x, "");
        told(x, 0, 3, 18, 0, 0);
    }

    private static void livesRefused() {
        SeaFire x = Bench.of(Bench.CITY);
        Bench.refused(x, "no EMPIRES", x.live(0), 8);
        Bench.refused(x, "5 ahead of 8", x.live(10000), 5);
        Bench.refused(x, "no EMPIRES", x.mean(0, 1), 8);
        Bench.refused(x, "5 ahead of 8", x.mean(0, 0), 5);
        Bench.empires(x, "year 1;");
        Bench.refused(x, "live(-1)", x.live(-1), 5);
        Bench.refused(x, "live(10000)", x.live(10000), 5);
        Bench.due("the YEAR", x.many(6), 0);
        Bench.due("live(9999)", x.live(9999), 1);
        int[][] not = {{-1, 1}, {10000, 1}, {0, 0}, {0, 21}, {0, -1}, {9999, 2}, {9980, 21}, {9981, 20}, {Integer.MAX_VALUE, 20}};
        for (int[] no : not) {
            Bench.refused(x, "mean(" + no[0] + ", " + no[1] + ")", x.mean(no[0], no[1]), 5);
        }
        Bench.fraction(x, "nothing told", 0, 1);
        Bench.due("mean(9980, 20)", x.mean(9980, 20), true);
        Bench.due("mean(9999, 1)", x.mean(9999, 1), true);
    }

    private static void meanOfLives() {
        SeaFire x = Bench.of("part a;part b;hand g age 1;hand h age 1 knows a;hand i age 1 knows a b;", "any;");
        int sum = 0;
        for (int seed = 4; seed < 16; seed++) {
            int drawn = (int) ((seed * 2971L + 10753) % 65536) / 8 % 3;
            sum += drawn == 2 ? 1 : 2;
        }
        int divisor = java.math.BigInteger.valueOf(sum).gcd(java.math.BigInteger.valueOf(12)).intValue();
        Bench.due("mean(4, 12)", x.mean(4, 12), true);
        Bench.due("status()", x.status(), 0);
        Bench.fraction(x, "mean(4, 12)", sum / divisor, 12 / divisor);
        Bench.due("all stays as it is", x.many(8), 7);
        Bench.refused(x, "nor has it LIVED", x.lived(0), 8);
        SeaFire none = Bench.of("hand g age 1;", "any;");
        none.mean(0, 5);
        Bench.fraction(none, "no PARTS", 0, 1);
        SeaFire written = Bench.of("part a written;part b;hand g age 1 knows b;", "year 20;");
        written.mean(0, 20);
        Bench.fraction(written, "both are KNOWN", 2, 1);
        SeaFire now = Bench.of("part a fades 2;hand g age 1 knows a;", "year 1;");
        now.mean(0, 1);
        Bench.fraction(now, "KNOWN for now", 1, 1);
        written.year(20);
        written.mean(0, 20);
        Bench.fraction(written, "from as it is now", 1, 1);
    }

    private static void marksAndBack() {
        SeaFire x = Bench.of(Bench.CITY, "use;");
        Bench.fill(x, 0, 0, 5);
        Bench.refused(x, "back()", x.back(), 8);
        Bench.due("mark()", x.mark(), 1);
        x.year(4);
        x.capture(1);
        x.note(0, true);
        x.leak(1, true);
        x.supply(7, false);
        x.rule(0, 99);
        x.rule(1, 9);
        x.hire(1, 1);
        x.teach(0, 4, 0);
        Bench.due("mark()", x.mark(), 2);
        Bench.empire(x, "part z;");
        x.write(0, 0, 6);
        Bench.due("mark()", x.mark(), 3);
        Bench.refused(x, "a fourth", x.mark(), 7);
        x.year(1);
        Bench.due("back()", x.back(), 2);
        Bench.due("the YEAR", x.many(6), 0);
        Bench.due("one PART", x.many(0), 1);
        Bench.refused(x, "no EMPIRES", x.live(0), 8);
        Bench.due("back()", x.back(), 1);
        long[] many = {3, 5, 2, 99, 9, 9, 4, 24, 25, 3, 3, 6, 0};
        for (int what = 0; what < many.length; what++) {
            Bench.due("many(" + what + ")", x.many(what), many[what]);
        }
        Bench.due("the EMPIRES, too", x.live(0), 1);
        Bench.due("and NAMES", Bench.empires(x, "use;write heat;"), 2);
        Bench.due("back()", x.back(), 0);
        long[] first = {3, 4, 2, 60, 50, 2, 0, 0, 15, 7, 2, 0, 1};
        for (int what = 0; what < first.length; what++) {
            Bench.due("at first many(" + what + ")", x.many(what), first[what]);
        }
        Bench.due("RUST", x.part(0, 3), 0);
        Bench.due("age", x.hand(1, 0), 30);
        Bench.due("EMPIRES of then", x.live(0), 1);
        Bench.due("TRAYS stay", x.read(0, 0), 6);
        Bench.refused(x, "back()", x.back(), 8);
    }
}
