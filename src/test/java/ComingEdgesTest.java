/** The boundary cases of promises 40 to 46, each behind the sentence that names it. */
public final class ComingEdgesTest {
    private static final String FULL = "life 99;part a fades 99;part b fades 98;part c fades 2;part d fades 1;part e written;part f;"
            + "hand g age 0 knows a b c d e f;hand h age 1;hand i age 1;hand j age 1;hand k age 1;hand l age 1;hand m age 98;hand n age 99;";

    public static void main(String[] args) {
        noSuchPart();
        notKnownNow();
        notIn200Years();
        yearsBeyond9999();
        fadingAndDeath();
        notWholeFirst();
        knownInSoManyYears();
        storeInSoManyYears();
        oneLessThanTheLeast();
        soManyYearsOfJars();
        oneFadesWhateverIsDone();
        rustAsItIsNow();
        inHowManyYearsItDies();
        Bench.end();
    }

    /** "LOST IN (0 to 200) (2 ..". */
    private static void noSuchPart() {
        Edges.bounds("lostIn()", Edges.of(FULL.replace("part e written", "part e")), (x, p) -> x.lostIn(p), 0, 5, 2);
        Edges.refused("lostIn() of none", SeaFire::new, (x, p) -> x.lostIn(p), 0, 2);
    }

    /** "(.. 0: now)". */
    private static void notKnownNow() {
        Bench.due("nobody KNOWS it", Bench.of("part a;hand h age 1;").lostIn(0), 0);
        SeaFire x = Bench.of("part a;hand h age 1 knows a;");
        x.capture(0);
        Bench.due("who KNEW it is CAPTURED", x.lostIn(0), 0);
        Bench.due("status()", x.status(), 0);
        Bench.due("who KNEW it is dead", Edges.late("life 10;part a;hand h age 9 knows a;", 1).lostIn(0), 0);
        Bench.due("it faded", Edges.late("part a fades 3;hand h age 9 knows a;", 3).lostIn(0), 0);
    }

    /** "(.. 8: not in 200 YEARS)". */
    private static void notIn200Years() {
        Edges.refused("WRITTEN", Edges.of(FULL), (x, p) -> x.lostIn(p), 4, 8);
        Edges.refused("all WRITTEN", Edges.of("part a written;"), x -> x.wholeFor(), 8);
        Bench.due("the latest of all: 99", Bench.of(FULL).lostIn(0), 99);
        Bench.due("98", Bench.of(FULL).lostIn(1), 98);
        SeaFire burnt = Bench.of("part a written;hand h age 1;");
        burnt.note(0, false);
        Bench.due("burnt", burnt.lostIn(0), 0);
    }

    /** "if only YEARS go by (9,999 does not matter". */
    private static void yearsBeyond9999() {
        SeaFire x = Edges.late("life 99;part a fades 40 written;spring s at 0 gives 1;", 9999);
        x.hire(0, 0);
        x.teach(0, 0, 0);
        x.note(0, false);
        Bench.due("it RUSTS for 99: in the next YEAR", x.lostIn(0), 1);
        x.supply(1, false);
        x.use();
        Bench.due("lostIn(0)", x.lostIn(0), 40);
        Bench.due("wholeFor()", x.wholeFor(), 40);
        Bench.due("knownIn(39)", x.knownIn(39), 1);
        Bench.due("knownIn(40)", x.knownIn(40), 0);
        Bench.due("dies(0)", x.dies(0), 99);
        SeaFire y = Edges.late("spring s at 0 gives 1;", 9900);
        y.year(99);
        Bench.due("storeIn(0)", y.storeIn(0), 9999);
    }

    /** "in how many YEARS a PART is not KNOWN first": by its fading, or by the last HAND's death. */
    private static void fadingAndDeath() {
        String text = "life 60;part a fades #;hand h age 50 knows a;hand i age 49 knows a;";
        int[][] rows = {{1, 1}, {2, 2}, {9, 9}, {10, 10}, {11, 11}, {12, 11}, {99, 11}};
        for (int[] row : rows) {
            String part = text.replace("#", Integer.toString(row[0]));
            SeaFire x = Bench.of(part);
            Bench.due("lostIn(0) of " + part, x.lostIn(0), row[1]);
            Bench.due("wholeFor() of " + part, x.wholeFor(), row[1]);
            Bench.due("knownIn() a YEAR ahead", x.knownIn(row[1] - 1), 1);
            Bench.due("knownIn() then", x.knownIn(row[1]), 0);
            x.year(row[1]);
            Bench.due("and so it comes", x.many(9), 0);
            SeaFire ahead = Bench.of(part);
            if (row[1] > 1) {
                ahead.year(row[1] - 1);
            }
            Bench.due("and not a YEAR ahead", ahead.many(9), 1);
            Bench.due("but in the next", ahead.lostIn(0), 1);
        }
    }

    /** "In how many YEARS (0 to 200) the craft is not WHOLE first (8: not in these)". */
    private static void notWholeFirst() {
        Bench.due("no PARTS", new SeaFire().wholeFor(), 0);
        Bench.due("not WHOLE now", Bench.of("part a;part b written;").wholeFor(), 0);
        Bench.due("the first that is LOST", Bench.of(FULL).wholeFor(), 1);
        Bench.due("the first that is LOST", Bench.of(FULL.replace("part d fades 1", "part d written")).wholeFor(), 2);
        Edges.refused("all WRITTEN", Edges.of("part a written;part b written;"), x -> x.wholeFor(), 8);
    }

    /** "The set of PARTS that are KNOWN in so many YEARS (0 to 200) (5)". */
    private static void knownInSoManyYears() {
        Edges.bounds("knownIn()", Edges::rich, (x, years) -> x.knownIn(years), 0, 200, 5);
        SeaFire x = Bench.of(FULL);
        int[][] rows = {{0, 63}, {1, 55}, {2, 51}, {29, 51}, {30, 19}, {97, 19}, {98, 17}, {99, 16}, {200, 16}};
        for (int[] row : rows) {
            Bench.due("knownIn(" + row[0] + ")", x.knownIn(row[0]), row[1]);
        }
        Bench.due("no PARTS", new SeaFire().knownIn(200), 0);
    }

    /** "The store in so many YEARS (0 to 200) (5)"; "(9,999 at most)". */
    private static void storeInSoManyYears() {
        Edges.bounds("storeIn()", Edges::rich, (x, years) -> x.storeIn(years), 0, 200, 5);
        SeaFire x = Bench.of("border 5;spring a at 5 gives 49;spring b at 6 gives 99;spring c at 0 gives 1;");
        Bench.due("storeIn(0)", x.storeIn(0), 0);
        Bench.due("storeIn(1)", x.storeIn(1), 50);
        Bench.due("storeIn(199)", x.storeIn(199), 9950);
        Bench.due("storeIn(200)", x.storeIn(200), 9999);
        SeaFire y = Bench.of("spring a at 5 gives 49;");
        y.supply(198, true);
        Bench.due("one less than the most", y.storeIn(200), 9998);
        y.supply(1, true);
        Bench.due("the most", y.storeIn(200), 9999);
        y.supply(1, true);
        Bench.due("one more", y.storeIn(200), 9999);
        Bench.due("all four at their most", Bench.of("spring a at 0 gives 99;spring b at 0 gives 99;spring c at 0 gives 99;"
                + "spring d at 0 gives 99;").storeIn(200), 9999);
        Bench.due("no SPRING", new SeaFire().storeIn(200), 0);
    }

    /** "1 less than the least number in which one does"; "PACE (8: no PARTS)". */
    private static void oneLessThanTheLeast() {
        Edges.refused("pace()", SeaFire::new, x -> x.pace(), 8);
        Edges.refused("pace()", Edges.of("hand h age 1;spring s at 1 gives 1;"), x -> x.pace(), 8);
        Bench.due("FADES in 1", Bench.of("part a fades 1;").pace(), 0);
        Bench.due("FADES in 2", Bench.of("part a fades 2;").pace(), 1);
        Bench.due("FADES in 98, and in 99", Bench.of("part a fades 99;part b fades 98;").pace(), 97);
        Bench.due("FADES in 99", Bench.of("part a fades 99;").pace(), 98);
        Bench.due("the first of six", Bench.of(FULL).pace(), 0);
        for (int fades : new int[] {2, 30, 99}) {
            String text = "life 99;jars 9;part a fades " + fades + ";hand h age 0 knows a;";
            SeaFire x = Bench.of(text);
            x.year(x.pace());
            Bench.due("so many YEARS: KNOWN", x.many(9), 1);
            x.use();
            Bench.due("one more: not KNOWN", Bench.of(text).knownIn(x.pace() + 1), 0);
        }
    }

    private static int slowly(int fades, int rust, int years) {
        int used = 0;
        int now = rust;
        for (int y = 0; y < years; y++) {
            if (now + 1 >= fades) {
                used++;
                now = 0;
            }
            now++;
        }
        return used;
    }

    /** "The fewest JARS that must be USED in so many YEARS (0 to 200) so that no PART FADES .. (5 ..". */
    private static void soManyYearsOfJars() {
        Edges.bounds("jarsFor()", Edges::rich, (x, years) -> x.jarsFor(years), 0, 200, 5);
        for (int fades : new int[] {2, 3, 10, 98, 99}) {
            SeaFire x = Bench.of("part a fades " + fades + ";part b fades 99;");
            for (int years = 0; years <= 200; years++) {
                Bench.due("jarsFor(" + years + ") if one FADES in " + fades, x.jarsFor(years), slowly(fades, 0, years));
            }
        }
        SeaFire x = Bench.of("part a fades 3;");
        int[] jars = {0, 0, 0, 1, 1, 2, 2, 3};
        for (int years = 0; years < jars.length; years++) {
            Bench.due("jarsFor(" + years + ")", x.jarsFor(years), jars[years]);
        }
    }

    /** "(.. 8: no PARTS, or one FADES whatever is done)", behind 5. */
    private static void oneFadesWhateverIsDone() {
        for (int years : new int[] {0, 1, 200}) {
            Edges.refused("jarsFor() without PARTS", SeaFire::new, (x, many) -> x.jarsFor(many), years, 8);
        }
        Edges.refused("5 ahead of 8", SeaFire::new, (x, many) -> x.jarsFor(many), 201, 5);
        Edges.refused("5 ahead of 8", SeaFire::new, (x, many) -> x.jarsFor(many), -1, 5);
        Edges.Start quick = Edges.of("part a fades 50;part b fades 1;");
        Bench.due("none FADES in no YEAR", quick.make().jarsFor(0), 0);
        Bench.due("status()", quick.make().status(), 0);
        for (int years : new int[] {1, 2, 200}) {
            Edges.refused("jarsFor() if one FADES in 1", quick, (x, many) -> x.jarsFor(many), years, 8);
        }
        Edges.fine("jarsFor() if one FADES in 2", Edges.of("part a fades 50;part b fades 2;"), (x, many) -> x.jarsFor(many), 200);
    }

    /** "RUST as it is now". */
    private static void rustAsItIsNow() {
        for (int rust = 0; rust <= 8; rust++) {
            SeaFire x = rust == 0 ? Bench.of("part a fades 5;") : Edges.late("part a fades 5;", rust);
            for (int years = 0; years <= 14; years++) {
                Bench.due("jarsFor(" + years + ") with RUST " + rust, x.jarsFor(years), slowly(5, rust, years));
            }
        }
        SeaFire x = Edges.late("part a fades 5;", 3);
        Bench.due("one YEAR more", x.jarsFor(1), 0);
        Bench.due("two YEARS more", x.jarsFor(2), 1);
        Bench.due("and four behind the USE", x.jarsFor(5), 1);
        Bench.due("five", x.jarsFor(6), 2);
    }

    /** "In how many YEARS (1 to 200) a HAND DIES (2; 8: it does not live)". */
    private static void inHowManyYearsItDies() {
        Edges.bounds("dies()", Edges.of(FULL), (x, h) -> x.dies(h), 0, 7, 2);
        Edges.refused("dies() of nobody", SeaFire::new, (x, h) -> x.dies(h), 0, 2);
        int[] due = {99, 98, 98, 98, 98, 98, 1, 1};
        for (int h = 0; h < 8; h++) {
            SeaFire x = Bench.of(FULL);
            Bench.due("dies(" + h + ")", x.dies(h), due[h]);
            if (due[h] > 1) {
                Bench.due("not a YEAR ahead", x.year(due[h] - 1) >> h & 1, 0);
            }
            Bench.due("one more", x.dies(h), 1);
            Bench.due("so it comes", x.year(1) >> h & 1, 1);
            Bench.refused(x, "it does not live", x.dies(h), 8);
        }
        Edges.refused("a dead one", () -> Edges.late("life 10;hand h age 9;", 1), (x, h) -> x.dies(h), 0, 8);
        Edges.refused("a CAPTURED one", () -> {
            SeaFire x = Bench.of("hand h age 9;");
            x.capture(0);
            return x;
        }, (x, h) -> x.dies(h), 0, 8);
        SeaFire ruled = Bench.of("hand h age 50;");
        ruled.rule(0, 52);
        Bench.due("52", ruled.dies(0), 2);
        ruled.rule(0, 51);
        Bench.due("51", ruled.dies(0), 1);
        ruled.rule(0, 50);
        Bench.due("50", ruled.dies(0), 1);
        ruled.rule(0, 49);
        Bench.due("49", ruled.dies(0), 1);
    }
}
