/** The boundary cases of promises 55 to 59, each behind the sentence that names it. */
public final class LifeEdgesTest {
    private static final String EIGHT = "hand g age 1;hand h age 1;hand i age 1;hand j age 1;hand k age 1;hand l age 1;hand m age 1;hand n age 1;";
    private static final String WHOLE = "part a;hand h age 1 knows a;";

    public static void main(String[] args) {
        bySeeds();
        noEmpires();
        ofTheLatestLife();
        aMeanBySeeds();
        allStaysAsItIs();
        soManyYears();
        yearsBeyond9999();
        jarsThatCanBeMade();
        whatIsMissed();
        anyWithoutHands();
        drawsByTheSeed();
        comparedWithJars();
        knownAndWholeNow();
        loopsAsOften();
        atMost300Steps();
        stopped();
        handsThatDiedOrWereCaptured();
        atMost3Marks();
        whatIsKeptByAMark();
        backWithoutAMark();
        Bench.end();
    }

    private static void toldOf(SeaFire x, int missed, int years, int made, int gone, int left) {
        int[] due = {missed, years, made, gone, left};
        for (int what = 0; what < 5; what++) {
            Bench.due("lived(" + what + ")", x.lived(what), due[what]);
        }
    }

    /** "LIVED by a seed (0 to 9,999)" (5). */
    private static void bySeeds() {
        Edges.bounds("live()", Edges::rich, (x, seed) -> x.live(seed), 0, 9999, 5);
    }

    /** "(5; 8: no EMPIRES)". */
    private static void noEmpires() {
        Edges.refused("live()", SeaFire::new, (x, seed) -> x.live(seed), 0, 8);
        Edges.refused("live()", Edges.of(Bench.CITY), (x, seed) -> x.live(seed), 9999, 8);
        Edges.refused("live(), 5 ahead of 8", SeaFire::new, (x, seed) -> x.live(seed), 10000, 5);
        Edges.refused("live(), 5 ahead of 8", SeaFire::new, (x, seed) -> x.live(seed), -1, 5);
        Edges.refused("mean()", SeaFire::new, (x, many) -> Edges.answer(x.mean(0, many)), 1, 8);
        Edges.refused("mean(), 5 ahead of 8", SeaFire::new, (x, many) -> Edges.answer(x.mean(0, many)), 0, 5);
        Edges.refused("mean(), 5 ahead of 8", SeaFire::new, (x, many) -> Edges.answer(x.mean(0, many)), 21, 5);
        Edges.refused("mean(), 5 ahead of 8", SeaFire::new, (x, many) -> Edges.answer(x.mean(9999, many)), 2, 5);
        Edges.refused("behind a new EMPIRE", () -> {
            SeaFire x = Bench.of(Bench.CITY, "use;");
            x.empire(0);
            return x;
        }, (x, seed) -> x.live(seed), 0, 8);
        Edges.fine("EMPIRES of no STEP", () -> Bench.of("part a;", ""), (x, seed) -> x.live(seed), 0);
    }

    /** "Of live() latest with STATUS 0, what 0 .. 4 (5; 8: there was none)". */
    private static void ofTheLatestLife() {
        Edges.bounds("lived()", Edges::rich, (x, what) -> x.lived(what), 0, 4, 5);
        for (int what = 0; what < 5; what++) {
            Edges.refused("lived() ahead of any", () -> Bench.of(Bench.CITY, "use;"), (x, asked) -> x.lived(asked), what, 8);
            Edges.refused("lived() behind a mean()", () -> {
                SeaFire x = Bench.of(Bench.CITY, "use;");
                x.mean(0, 1);
                return x;
            }, (x, asked) -> x.lived(asked), what, 8);
            Edges.refused("lived() behind a live() that was refused", () -> {
                SeaFire x = Bench.of(Bench.CITY, "use;");
                x.live(10000);
                return x;
            }, (x, asked) -> x.lived(asked), what, 8);
        }
        Edges.refused("5 ahead of 8", SeaFire::new, (x, what) -> x.lived(what), 5, 5);
        Edges.refused("5 ahead of 8", SeaFire::new, (x, what) -> x.lived(what), -1, 5);
        SeaFire x = Bench.of(Bench.CITY, "year 3;make 18;make 1;use;");
        x.live(0);
        toldOf(x, 1, 3, 18, 1, 0);
        x.live(10000);
        toldOf(x, 1, 3, 18, 1, 0);
        x.empire(0);
        x.live(0);
        toldOf(x, 1, 3, 18, 1, 0);
        x.empires(0);
        x.live(0);
        toldOf(x, 0, 0, 0, 0, 0);
    }

    /** "by so many seeds (1 to 20) from one on"; "(5: the last above 9,999, too ..". */
    private static void aMeanBySeeds() {
        Edges.bounds("mean() by seeds", Edges::rich, (x, many) -> Edges.answer(x.mean(0, many)), 1, 20, 5);
        Edges.bounds("mean() from a seed on", Edges::rich, (x, seed) -> Edges.answer(x.mean(seed, 1)), 0, 9999, 5);
        Edges.bounds("mean() from a seed on", Edges::rich, (x, seed) -> Edges.answer(x.mean(seed, 20)), 0, 9980, 5);
        Edges.bounds("mean() from a seed on", Edges::rich, (x, seed) -> Edges.answer(x.mean(seed, 2)), 0, 9998, 5);
        Edges.bounds("mean() to the last", Edges::rich, (x, many) -> Edges.answer(x.mean(9985, many)), 1, 15, 5);
        Edges.refused("mean() beyond an int", Edges::rich, x -> Edges.answer(x.mean(Integer.MAX_VALUE, Integer.MAX_VALUE)), 5);
        Edges.refused("mean() of -1 to 5", Edges::rich, x -> Edges.answer(x.mean(-1, 7)), 5);
    }

    private static int drawn(int seed, int by) {
        return (int) ((seed * 2971L + 10753) % 65536) / 8 % by;
    }

    /** "The FRACTION is the mean of how many PARTS are KNOWN behind the EMPIRES .. (all stays as it is)". */
    private static void allStaysAsItIs() {
        String text = "part a;part b;part c;hand g age 1 knows a;hand h age 1 knows b c;hand i age 1;";
        for (int many = 1; many <= 20; many++) {
            int sum = 0;
            for (int seed = 9980; seed < 9980 + many; seed++) {
                int gone = drawn(seed, 3);
                sum += gone == 0 ? 2 : gone == 1 ? 1 : 3;
            }
            int divisor = many;
            while (sum % divisor != 0 || many % divisor != 0) {
                divisor--;
            }
            SeaFire x = Bench.of(text, "any;");
            Bench.due("mean(9980, " + many + ")", x.mean(9980, many), true);
            Bench.fraction(x, "mean(9980, " + many + ")", sum / divisor, many / divisor);
            Bench.due("all live", x.many(8), 7);
            Bench.due("the ENEMY has none", x.many(11), 0);
            Bench.due("live(9980)", x.live(9980), 1);
            Bench.due("CAPTURED now", x.many(8), 7 & ~(1 << drawn(9980, 3)));
        }
        SeaFire none = Bench.of("", "year 1;");
        none.mean(0, 20);
        Bench.fraction(none, "no PARTS", 0, 1);
        SeaFire all = Bench.of("part a written;part b written;part c written;part d written;part e written;part f written;", "year 1;");
        all.mean(0, 20);
        Bench.fraction(all, "all six", 6, 1);
        Bench.due("no YEAR went by", all.many(6), 0);
    }

    /** "year: so many (1 to 20)". */
    private static void soManyYears() {
        for (int years : new int[] {1, 20}) {
            SeaFire x = Bench.of("", "year " + years + ";");
            x.live(0);
            toldOf(x, 0, years, 0, 0, 0);
            Bench.due("YEAR", x.many(6), years);
        }
    }

    private static SeaFire lateWith(int year, String plan) {
        SeaFire x = Edges.late("spring s at 0 gives 0;", year);
        Bench.empires(x, plan);
        return x;
    }

    /** "YEARS beyond 9,999 (as a whole)" are MISSED. */
    private static void yearsBeyond9999() {
        int[][] rows = {{9979, 20, 9999}, {9980, 20, 9980}, {9980, 19, 9999}, {9998, 1, 9999}, {9998, 2, 9998}, {9999, 1, 9999}};
        for (int[] row : rows) {
            SeaFire x = lateWith(row[0], "year " + row[1] + ";");
            Bench.due("live(0)", x.live(0), 1);
            Bench.due("YEAR from " + row[0] + " by " + row[1], x.many(6), row[2]);
            int went = row[2] - row[0];
            toldOf(x, went == 0 ? 1 : 0, went, 0, 0, 0);
        }
        SeaFire then = lateWith(9990, "year 10;year 9;year 1;");
        Bench.due("live(0)", then.live(0), 3);
        toldOf(then, 2, 9, 0, 0, 0);
    }

    /** "make: 1 to 999"; MISSED if it can't be; "(9,999 at most)". */
    private static void jarsThatCanBeMade() {
        for (int store : new int[] {998, 999, 1000}) {
            SeaFire x = Bench.of(WHOLE, "make 999;");
            x.supply(store, true);
            x.live(0);
            toldOf(x, store < 999 ? 1 : 0, 0, store < 999 ? 0 : 999, 0, 0);
            Bench.due("JARS", x.many(5), store < 999 ? 0 : 999);
        }
        SeaFire one = Bench.of(WHOLE, "make 1;make 1;");
        one.supply(1, true);
        one.live(0);
        toldOf(one, 1, 0, 1, 0, 0);
        SeaFire full = Bench.of("jars 9998;" + WHOLE, "make 5;");
        full.supply(5, true);
        full.live(0);
        Bench.due("9,999 at most", full.many(5), 9999);
        Bench.due("all went from the store", full.many(7), 0);
        toldOf(full, 0, 0, 5, 0, 0);
        SeaFire broken = Bench.of("part a;part b;hand h age 1 knows a;", "make 1;");
        broken.supply(5, true);
        broken.live(0);
        toldOf(broken, 1, 0, 0, 0, 0);
    }

    private static void step(String text, String plan, int missed) {
        SeaFire x = Bench.of(text, plan);
        int steps = plan.split(";").length;
        Bench.due("live(0) of " + plan, x.live(0), steps);
        Bench.due("MISSED of " + plan, x.lived(0), missed);
        Bench.due("a STEP left", x.lived(4), 0);
    }

    /** "What can't be is MISSED: .. a make, use, teach, write, burn, capture (by any, too) that can't be". */
    private static void whatIsMissed() {
        step("jars 1;" + WHOLE, "use;", 0);
        step("jars 1;" + WHOLE, "use;use;", 1);
        step("jars 1;part a;part b;hand h age 1 knows a;", "use;", 1);
        String two = "part a;part b written;hand h age 1 knows a;hand i age 1;";
        step(two, "teach h i a;", 0);
        step(two, "teach h i a;teach h i a;", 1);
        step(two, "teach i h a;", 1);
        step(two, "teach i h b;", 1);
        step(two, "teach i i b;", 0);
        step(two, "teach i i a;", 1);
        step(two, "write a;", 0);
        step(two, "write a;write a;", 1);
        step(two, "write b;", 1);
        step(two, "burn b;", 0);
        step(two, "burn b;burn b;", 1);
        step(two, "burn a;", 1);
        step(two, "capture h;", 0);
        step(two, "capture h;capture h;", 1);
        step(two, "capture h;teach h i a;", 1);
        step(two, "capture i;teach h i a;", 1);
        step(two, "capture h;write a;", 1);
        step("life 10;hand h age 9;", "year 1;capture h;", 1);
        step("life 10;hand h age 9;", "year 1;any;", 1);
        step("hand h age 9;", "any;", 0);
        step("hand h age 9;", "any;any;any;", 2);
    }

    /** "any without HANDS (no draw)". */
    private static void anyWithoutHands() {
        step("part a;", "any;any;", 2);
        step("", "any;", 1);
    }

    private static int[] draws(int seed, int by, int many) {
        long s = seed;
        int[] row = new int[many];
        for (int i = 0; i < many; i++) {
            s = (s * 2971 + 10753) % 65536;
            row[i] = (int) (s / 8 % by);
        }
        return row;
    }

    /** "s .. becomes what is left of s times 2,971 and 10,753 by 65,536; the draw by n is the rest of s by 8, rounded down, by n". */
    private static void drawsByTheSeed() {
        String[] hands = EIGHT.split(";");
        for (int seed : new int[] {0, 1, 18, 19, 22, 4095, 4096, 9998, 9999}) {
            String text = "";
            for (int by = 1; by <= 8; by++) {
                text += hands[by - 1] + ";";
                SeaFire x = Bench.of(text, "any;any;any;any;any;");
                x.live(seed);
                int living = (1 << by) - 1;
                int missed = 0;
                for (int drawn : draws(seed, by, 5)) {
                    missed += (living >> drawn & 1) == 1 ? 0 : 1;
                    living &= ~(1 << drawn);
                }
                Bench.due("who lives by seed " + seed + " of " + by, x.many(8), living);
                Bench.due("MISSED by seed " + seed + " of " + by, x.lived(0), missed);
                Bench.due("CAPTURED by seed " + seed + " of " + by, x.lived(3), 5 - missed);
            }
        }
        // Each life begins with its seed again.
        SeaFire again = Bench.of(EIGHT, "any;");
        again.live(5);
        again.live(5);
        Bench.due("the same draw is MISSED", again.lived(0), 1);
    }

    /** "when jars: 0 to 9,999"; "COMPARES: < or > or =". */
    private static void comparedWithJars() {
        for (int jars : new int[] {0, 1, 5, 9998, 9999}) {
            for (int number = Math.max(0, jars - 1); number <= Math.min(9999, jars + 1); number++) {
                SeaFire x = Bench.of("jars " + jars + ";", "when jars<" + number + ";year 1;end;when jars=" + number
                        + ";year 2;end;when jars>" + number + ";year 4;end;");
                Bench.due("three whens and one year", x.live(0), 4);
                Bench.due(jars + " JARS by " + number, x.many(6), jars < number ? 1 : jars == number ? 2 : 4);
            }
        }
    }

    /** "TEST: known NAME, or whole": as it is when it is come to. */
    private static void knownAndWholeNow() {
        String text = "life 99;part a fades 2;part b fades 3;part c written;hand h age 1 knows a b;";
        String plan = "when known a;make 1;end;when known b;make 2;end;when known c;make 4;end;when whole;make 8;end;";
        int[] due = {15, 15, 6, 4};
        for (int years = 0; years < due.length; years++) {
            SeaFire x = Bench.of(text, plan);
            if (years > 0) {
                x.year(years);
            }
            // What is not WHOLE is MISSED, so the STEPS tell which TESTS held.
            int held = Integer.bitCount(due[years]);
            Bench.due("in YEAR " + years, x.live(0), 4 + held);
        }
        String tests = "when known #;stop;end;year 1;";
        String[] names = {"a", "b", "c"};
        for (int p = 0; p < 3; p++) {
            for (int years = 0; years <= 3; years++) {
                SeaFire x = Bench.of(text, tests.replace("#", names[p]));
                if (years > 0) {
                    x.year(years);
                }
                boolean known = (x.many(9) >> p & 1) == 1;
                x.live(0);
                Bench.due("known " + names[p] + " in YEAR " + years, x.lived(1), known ? 0 : 1);
            }
        }
        SeaFire last = Bench.of("part a fades 1;hand h age 1 knows a;", "when known a;when whole;year 2;end;end;when known a;year 9;end;");
        Bench.due("in its last YEAR", last.live(0), 4);
        Bench.due("YEAR", last.many(6), 2);
        SeaFire mean = Bench.of("part a fades 2;hand h age 1 knows a;", "year 1;");
        mean.mean(0, 4);
        Bench.fraction(mean, "KNOWN for a YEAR", 1, 1);
        SeaFire none = Bench.of("", "when whole;year 1;end;");
        none.live(0);
        Bench.due("no PARTS are not WHOLE", none.many(6), 0);
    }

    /** "loop n (1 to 99): as often". */
    private static void loopsAsOften() {
        for (int often : new int[] {1, 2, 98, 99}) {
            SeaFire x = Bench.of("", "loop " + often + ";year 1;end;");
            Bench.due("the loop, and its STEPS", x.live(0), 1 + often);
            Bench.due("YEAR", x.many(6), often);
            SeaFire within = Bench.of("", "loop 2;loop " + often + ";year 1;end;end;");
            Bench.due("twice", within.live(0), 1 + 2 * (1 + often));
            Bench.due("YEAR", within.many(6), 2 * often);
            SeaFire empty = Bench.of("", "loop " + often + ";end;year 1;");
            Bench.due("an empty loop counts as one", empty.live(0), 2);
            SeaFire inner = Bench.of("", "loop " + often + ";loop 99;end;end;year 1;");
            Bench.due("each time it is come to from ahead", inner.live(0), 1 + often + 1);
            SeaFire not = Bench.of("", "loop " + often + ";when whole;year 1;end;end;");
            Bench.due("a when that does not hold counts as one", not.live(0), 1 + often);
            Bench.due("YEAR", not.many(6), 0);
        }
    }

    private static void steps(String plan, int done, int left, int years) {
        SeaFire x = Bench.of("", plan);
        Bench.due("live(0) of " + plan, x.live(0), done);
        Bench.due("a STEP left by " + plan, x.lived(4), left);
        Bench.due("YEARS of " + plan, x.lived(1), years);
        Bench.due("the YEAR of " + plan, x.many(6), years);
    }

    /** "At most 300 STEPS"; "1 if a STEP was left to be done, else 0". */
    private static void atMost300Steps() {
        String hundred = "loop 99;year 1;end;";
        steps(hundred + hundred + "loop 98;year 1;end;", 299, 0, 296);
        steps(hundred + hundred + hundred, 300, 0, 297);
        steps(hundred + hundred + hundred + "year 1;", 300, 1, 297);
        steps(hundred + hundred + hundred + "stop;", 300, 1, 297);
        steps(hundred + hundred + hundred + "when whole;end;", 300, 1, 297);
        steps(hundred + hundred + hundred + "loop 1;end;", 300, 1, 297);
        steps(hundred + hundred + "loop 98;year 1;end;stop;", 300, 0, 296);
        steps(hundred + hundred + "loop 98;year 1;end;stop;year 1;", 300, 0, 296);
        steps(hundred + hundred + "loop 98;year 1;end;when whole;year 1;end;", 300, 0, 296);
        steps(hundred + hundred + "loop 98;year 1;end;when jars=0;year 1;end;", 300, 1, 296);
        steps(hundred + hundred + "loop 98;year 1;end;loop 9;end;", 300, 0, 296);
        steps(hundred + hundred + "loop 98;year 1;end;loop 9;year 1;end;", 300, 1, 296);
        steps("loop 3;loop 98;year 1;end;end;year 1;year 1;", 300, 0, 296);
        steps("loop 3;loop 98;year 1;end;end;year 1;year 1;year 1;", 300, 1, 296);
        steps("loop 99;loop 99;loop 99;year 20;end;end;end;", 300, 1, 295 * 20);
        steps("loop 99;loop 99;loop 99;end;end;end;", 300, 1, 0);
        SeaFire again = Bench.of("", "loop 99;loop 99;year 1;end;end;");
        again.live(0);
        Bench.empires(again, "when jars=0;when jars=0;year 1;end;end;");
        Bench.due("nothing is left of the life ahead", again.live(0), 3);
        toldOf(again, 0, 1, 0, 0, 0);
        SeaFire missed = Bench.of("", "loop 99;loop 99;use;end;end;");
        Bench.due("MISSED ones count", missed.live(0), 300);
        Bench.due("MISSED", missed.lived(0), 296);
    }

    private static void stopped() {
        steps("stop;", 1, 0, 0);
        steps("stop;year 1;", 1, 0, 0);
        steps("loop 99;year 1;stop;end;year 1;", 3, 0, 1);
        steps("loop 9;loop 9;loop 9;stop;end;end;end;", 4, 0, 0);
        steps("when whole;stop;end;year 1;", 2, 0, 1);
    }

    /** "3: HANDS that DIED or were CAPTURED". */
    private static void handsThatDiedOrWereCaptured() {
        SeaFire x = Bench.of("life 10;" + EIGHT, "capture g;year 8;capture h;year 1;capture i;any;");
        Bench.due("live(0)", x.live(0), 6);
        toldOf(x, 2, 9, 0, 8, 0);
        SeaFire none = Bench.of(EIGHT, "year 20;");
        none.live(0);
        toldOf(none, 0, 20, 0, 0, 0);
    }

    /** "MARKS, at most 3"; "A MARK more: how many there are (7)". */
    private static void atMost3Marks() {
        SeaFire x = Bench.of(Bench.CITY);
        for (int m = 1; m <= 3; m++) {
            Bench.due("mark()", x.mark(), m);
            Bench.due("status()", x.status(), 0);
        }
        Bench.refused(x, "a fourth", x.mark(), 7);
        Bench.due("back()", x.back(), 2);
        Bench.due("a third again", x.mark(), 3);
        Bench.refused(x, "a fourth", x.mark(), 7);
        Edges.Start full = () -> {
            SeaFire y = Edges.rich();
            y.mark();
            y.year(2);
            return y;
        };
        Edges.refused("mark() with three", full, y -> y.mark(), 7);
        Edges.fine("mark() with two", Edges::rich, (y, v) -> y.mark(), 0);
        Edges.fine("mark() of a new object", SeaFire::new, (y, v) -> y.mark(), 0);
    }

    /** "the EMPIRE with all that became of it, the EMPIRES are kept as they are; all is taken back to the latest MARK, which is gone then". */
    private static void whatIsKeptByAMark() {
        SeaFire x = new SeaFire();
        for (int m = 0; m < 3; m++) {
            Bench.empire(x, "life " + (50 + m) + ";jars " + m + ";part a;hand h age " + m + " knows a;");
            Bench.empires(x, "year 1;".repeat(m + 1));
            x.supply(10 + m, true);
            x.year(m + 1);
            x.mark();
        }
        Bench.empire(x, "");
        for (int m = 2; m >= 0; m--) {
            Bench.due("back()", x.back(), m);
            Bench.due("LIFE", x.many(3), 50 + m);
            Bench.due("JARS", x.many(5), m);
            Bench.due("YEAR", x.many(6), m + 1);
            Bench.due("store", x.many(7), 10 + m);
            Bench.due("RUST", x.part(0, 3), m + 1);
            Bench.due("AGE", x.hand(0, 0), 2 * m + 1);
            Bench.due("EMPIRES", x.live(0), m + 1);
        }
        Bench.refused(x, "the MARKS are gone", x.back(), 8);
        SeaFire none = Bench.of(Bench.CITY);
        none.mark();
        Bench.empires(none, "use;");
        none.back();
        Bench.refused(none, "no EMPIRES at the MARK", none.live(0), 8);
        SeaFire tape = new SeaFire();
        tape.mark();
        tape.feed(0, 0, 0, 0, 0);
        tape.tray(0, 0, 1);
        tape.back();
        Bench.due("the tape is no EMPIRE", tape.feed(0, 0, 0, 0, 0), 40);
        Bench.due("nor are TRAYS", tape.read(0, 0), 0);
    }

    /** "how many there are left (8)". */
    private static void backWithoutAMark() {
        Edges.refused("back() of a new object", SeaFire::new, x -> x.back(), 8);
        Edges.refused("back() of a city", Edges.of(Bench.CITY), x -> x.back(), 8);
        SeaFire x = new SeaFire();
        x.mark();
        Bench.due("back()", x.back(), 0);
        Bench.due("status()", x.status(), 0);
        Bench.refused(x, "back()", x.back(), 8);
    }
}
