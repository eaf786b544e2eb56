/** The boundary cases of promises 18 to 27, each behind the sentence that names it. */
public final class DeedEdgesTest {
    private static final String FULL = "part a;part b;part c;part d;part e;part f;"
            + "hand g age 1 knows a b c d e f;hand h age 1;hand i age 1;hand j age 1;"
            + "hand k age 1;hand l age 1;hand m age 1;hand n age 1;";
    private static final String ONE = "part a;hand h age 1 knows a;";

    public static void main(String[] args) {
        soManyYears();
        yearsTo9999();
        whoIsOfAgeLifeOrMoreDies();
        springsNoFartherThanTheBorder();
        theStoreHas9999AtMost();
        partsRustFor99AtMost();
        asManyYearsAsItFadesIn();
        whatTheDeadKnew();
        soManyJarsAreMade();
        theStoreHasAsMany();
        jarsAre9999AtMost();
        theCraftMustBeWhole();
        aJarIsSpent();
        whoTeachesWhom();
        whatCannotBeTaught();
        writtenAndBurnt();
        captured();
        hired();
        ruled();
        supplied();
        leaked();
        Bench.end();
    }

    /** "So many YEARS (1 to 99)" (5). */
    private static void soManyYears() {
        Edges.bounds("year()", Edges::rich, (x, years) -> x.year(years), 1, 99, 5);
        SeaFire x = Bench.of(ONE);
        x.year(99);
        Bench.due("YEAR", x.many(6), 99);
    }

    /** "A YEAR goes by (to 9,999)"; "7: above 9,999". */
    private static void yearsTo9999() {
        Edges.bounds("year() from 9,900 on", () -> Edges.late(ONE, 9900), (x, years) -> x.year(years), 1, 99, 5);
        Edges.fine("year() from 9,901 on", () -> Edges.late(ONE, 9901), (x, years) -> x.year(years), 98);
        Edges.refused("year() from 9,901 on", () -> Edges.late(ONE, 9901), (x, years) -> x.year(years), 99, 7);
        Edges.fine("year() from 9,998 on", () -> Edges.late(ONE, 9998), (x, years) -> x.year(years), 1);
        Edges.refused("year() from 9,998 on", () -> Edges.late(ONE, 9998), (x, years) -> x.year(years), 2, 7);
        Edges.refused("year() from 9,999 on", () -> Edges.late(ONE, 9999), (x, years) -> x.year(years), 1, 7);
        Edges.refused("year() from 9,999 on, 5 ahead of 7", () -> Edges.late(ONE, 9999), (x, years) -> x.year(years), 100, 5);
        SeaFire x = Edges.late(ONE, 9900);
        x.year(99);
        Bench.due("YEAR", x.many(6), 9999);
    }

    /** "each living HAND is a YEAR older; who is of AGE LIFE or more DIES". */
    private static void whoIsOfAgeLifeOrMoreDies() {
        SeaFire x = Bench.of("life 50;hand a age 47;hand b age 48;hand c age 49;hand d age 50;hand e age 99;hand f age 0;");
        Bench.due("all live until a YEAR goes by", x.many(8), 63);
        Bench.due("50 and more", x.year(1), 4 | 8 | 16);
        int[] ages = {48, 49, 50, 51, 100, 1};
        for (int h = 0; h < ages.length; h++) {
            Bench.due("AGE of " + h, x.hand(h, 0), ages[h]);
            Bench.due("fate of " + h, x.hand(h, 3), h >= 2 && h <= 4 ? 1 : 0);
        }
        Bench.due("50 again", x.year(1), 2);
        Bench.due("and again", x.year(1), 1);
        Bench.due("47 YEARS later: 49 and two more", x.year(46), 0);
        Bench.due("AGE 49", x.hand(5, 0), 49);
        Bench.due("AGE 50", x.year(1), 32);
        Bench.due("the dead are as old as they were when they died", x.hand(4, 0), 100);
        for (int life : new int[] {10, 99}) {
            SeaFire y = Bench.of("life " + life + ";hand a age 0;");
            Bench.due("one YEAR less than LIFE " + life, y.year(life - 1), 0);
            Bench.due("LIFE " + life, y.year(1), 1);
        }
        SeaFire all = Bench.of("life 99;" + FULL);
        Bench.due("all eight", all.year(98), 255);
        SeaFire c = Bench.of("life 50;hand a age 49;");
        c.capture(0);
        Bench.due("who is CAPTURED does not DIE", c.year(9), 0);
        Bench.due("nor grow older", c.hand(0, 0), 49);
        Bench.due("but is CAPTURED", c.hand(0, 3), 2);
    }

    /** "each SPRING no farther than the BORDER GIVES to the store". */
    private static void springsNoFartherThanTheBorder() {
        SeaFire x = Bench.of("border 50;spring a at 49 gives 1;spring b at 50 gives 2;spring c at 51 gives 4;spring d at 999 gives 8;");
        x.year(1);
        Bench.due("store", x.many(7), 3);
        int[] side = {1, 1, 0, 0};
        for (int s = 0; s < 4; s++) {
            Bench.due("spring(" + s + ", 2)", x.spring(s, 2), side[s]);
        }
        x.rule(1, 999);
        x.year(1);
        Bench.due("all of them", x.many(7), 18);
        SeaFire zero = Bench.of("border 0;spring a at 0 gives 1;spring b at 1 gives 2;");
        zero.year(1);
        Bench.due("BORDER 0", zero.many(7), 1);
    }

    private static SeaFire stored(String text, int store) {
        SeaFire x = Bench.of(text);
        if (store > 0) {
            x.supply(store, true);
        }
        return x;
    }

    /** "to the store (9,999 at most)". */
    private static void theStoreHas9999AtMost() {
        String text = "spring a at 0 gives 1;spring b at 0 gives 2;";
        int[][] rows = {{9995, 1, 9998}, {9996, 1, 9999}, {9997, 1, 9999}, {9999, 1, 9999}, {9900, 33, 9999}, {9900, 34, 9999}, {9900, 32, 9996}};
        for (int[] row : rows) {
            SeaFire x = stored(text, row[0]);
            x.year(row[1]);
            Bench.due("store of " + row[0] + " in " + row[1], x.many(7), row[2]);
        }
        SeaFire none = stored("spring a at 0 gives 0;", 9999);
        none.year(1);
        Bench.due("a SPRING that GIVES nothing", none.many(7), 9999);
    }

    /** "each PART RUSTS for a YEAR more (99 at most)". */
    private static void partsRustFor99AtMost() {
        SeaFire x = Bench.of("part a;");
        Bench.due("at first", x.part(0, 3), 0);
        x.year(98);
        Bench.due("98", x.part(0, 3), 98);
        x.year(1);
        Bench.due("99", x.part(0, 3), 99);
        x.year(1);
        Bench.due("100", x.part(0, 3), 99);
        x.year(99);
        Bench.due("199", x.part(0, 3), 99);
    }

    /** "one that RUSTS for as many YEARS as it FADES in, or more, is KNOWN by no HAND any more". */
    private static void asManyYearsAsItFadesIn() {
        for (int fades : new int[] {1, 2, 30, 98, 99}) {
            String text = "life 99;part a fades " + fades + ";hand h age 0 knows a;hand i age 0 knows a;";
            SeaFire x = Bench.of(text);
            if (fades > 1) {
                x.year(fades - 1);
                Bench.due("KNOWN", x.many(9), 1);
                Bench.due("by both", x.knowers(0), 3);
            }
            Bench.due("not yet", x.many(9), 1);
            x.year(1);
            Bench.due("not KNOWN", x.many(9), 0);
            Bench.due("by nobody", x.knowers(0), 0);
        }
        SeaFire last = Bench.of("life 99;part a fades 99;hand h age 0 knows a;");
        last.year(50);
        last.hire(0, 0);
        last.teach(0, 1, 0);
        last.year(48);
        Bench.due("98 of 99", last.hand(1, 2), 1);
        last.year(1);
        Bench.due("99 of 99", last.hand(1, 2), 0);
        SeaFire more = Bench.of("part a fades 3 written;hand h age 1;");
        more.year(5);
        Bench.due("taught from what is WRITTEN", more.teach(0, 0, 0), 1);
        more.year(1);
        Bench.due("or more", more.hand(0, 2), 0);
        SeaFire used = Bench.of("jars 1;part a fades 3;hand h age 1 knows a;");
        used.year(2);
        used.use();
        used.year(2);
        Bench.due("USED, so it is KNOWN", used.hand(0, 2), 1);
        used.year(1);
        Bench.due("no longer", used.hand(0, 2), 0);
    }

    /** "what they KNEW", by the order of a YEAR: "1. .. DIES. .. 3. .. is KNOWN by no HAND any more". */
    private static void whatTheDeadKnew() {
        String text = "life 10;part a fades 2;part b fades 3;hand h age 9 knows a b;hand i age 8 knows a b;hand j age 7 knows a b;"
                + "hand k age 6 knows a b;hand l age 5 knows a b;";
        for (boolean atOnce : new boolean[] {true, false}) {
            SeaFire x = Bench.of(text);
            for (int i = 0; i < 5; i++) {
                x.year(atOnce ? 5 : 1);
            }
            int[] knew = {3, 3, 2, 0, 0};
            for (int h = 0; h < knew.length; h++) {
                Bench.due("what " + h + " KNEW", x.hand(h, 2), knew[h]);
                Bench.due("when " + h + " died", x.hand(h, 0), 10);
            }
        }
        SeaFire caught = Bench.of("life 99;part a fades 2;hand h age 9 knows a;hand i age 9 knows a;");
        caught.year(1);
        caught.capture(0);
        caught.year(1);
        Bench.due("what the CAPTURED KNEW", caught.hand(0, 2), 1);
        Bench.due("what the living KNOW", caught.hand(1, 2), 0);
        Bench.due("what the ENEMY has", caught.many(11), 1);
    }

    /** "MAKE (1 to 999): JARS then (5 ..". */
    private static void soManyJarsAreMade() {
        Edges.Start start = () -> stored("jars 7;" + ONE, 1000);
        Edges.bounds("make()", start, (x, jars) -> x.make(jars), 1, 999, 5);
        Bench.due("make(1)", start.make().make(1), 8);
        Bench.due("make(999)", start.make().make(999), 1006);
        Edges.refused("make(): 5 ahead of 9", Edges.of(""), (x, jars) -> x.make(jars), 0, 5);
        Edges.refused("make(): 5 ahead of 9", Edges.of(""), (x, jars) -> x.make(jars), 1000, 5);
    }

    /** "the store has as many: they go from the store to the JARS"; "no PART RUSTS then (all USED)". */
    private static void theStoreHasAsMany() {
        for (int jars : new int[] {1, 2, 998, 999}) {
            Edges.fine("make() of all", () -> stored(ONE, jars), (x, many) -> x.make(many), jars);
            Edges.refused("make() of one more", () -> stored(ONE, jars - 1), (x, many) -> x.make(many), jars, 9);
            SeaFire x = stored("part a;part b written;hand h age 1 knows a;", jars);
            x.year(4);
            Bench.due("make", x.make(jars), jars);
            Bench.due("store", x.many(7), 0);
            Bench.due("RUST", x.part(0, 3) + x.part(1, 3), 0);
        }
    }

    /** "to the JARS (9,999 at most)". */
    private static void jarsAre9999AtMost() {
        int[][] rows = {{9997, 1, 9998}, {9998, 1, 9999}, {9999, 1, 9999}, {9000, 999, 9999}, {9001, 999, 9999}, {9000, 998, 9998}};
        for (int[] row : rows) {
            SeaFire x = stored("jars " + row[0] + ";" + ONE, 1000);
            Bench.due("make(" + row[1] + ") with " + row[0], x.make(row[1]), row[2]);
            Bench.due("JARS", x.many(5), row[2]);
            Bench.due("store", x.many(7), 1000 - row[1]);
        }
    }

    /** "if the craft is WHOLE"; "if all PARTS are KNOWN (there must be one)"; "the craft must be WHOLE". */
    private static void theCraftMustBeWhole() {
        String[] not = {"jars 5;", "jars 5;hand h age 1;", "jars 5;part a;", "jars 5;part a;part b;hand h age 1 knows a;",
            "jars 5;part a written;part b;", "jars 5;part a;part b;part c;part d;part e;part f;hand h age 1 knows a b c d e;"};
        for (String text : not) {
            Edges.refused("make() in " + text, () -> stored(text, 5), (x, jars) -> x.make(jars), 1, 9);
            Edges.refused("use() in " + text, () -> stored(text, 5), x -> x.use(), 9);
            Bench.due("many(12) in " + text, Bench.of(text).many(12), 0);
        }
        String[] whole = {"jars 5;part a written;", "jars 5;part a fades 1;hand h age 1 knows a;", "jars 5;life 10;part a;hand h age 99 knows a;", "jars 5;part a;hand h age 1 knows a;", "jars 5;part a;part b written;hand h age 1 knows a;",
            "jars 5;part a;part b;part c;part d;part e;part f;hand h age 1 knows a b c d e;hand i age 1 knows f;"};
        for (String text : whole) {
            Edges.fine("make() in " + text, () -> stored(text, 5), (x, jars) -> x.make(jars), 1);
            Edges.fine("use() in " + text, () -> stored(text, 5), (x, v) -> x.use(), 0);
            Bench.due("many(12) in " + text, Bench.of(text).many(12), 1);
        }
        SeaFire dead = stored("life 10;jars 5;part a;hand h age 9 knows a;", 5);
        dead.year(1);
        Bench.refused(dead, "what the dead KNEW is not KNOWN", dead.make(1), 9);
        Bench.refused(dead, "what the dead KNEW is not KNOWN", dead.use(), 9);
    }

    /** "USE: a JAR is spent". */
    private static void aJarIsSpent() {
        SeaFire x = Bench.of("jars 2;" + ONE);
        x.year(3);
        Bench.due("two", x.use(), 1);
        Bench.due("RUST", x.part(0, 3), 0);
        Bench.due("one", x.use(), 0);
        Bench.due("status()", x.status(), 0);
        Edges.refused("use() of none", Edges.of(ONE), y -> y.use(), 9);
        Edges.fine("use() of one", Edges.of("jars 1;" + ONE), (y, v) -> y.use(), 0);
        Bench.due("of 9,999", Bench.of("jars 9999;" + ONE).use(), 9998);
    }

    /** "2 no such PART, HAND", ahead of 9. */
    private static void whoTeachesWhom() {
        Edges.Start full = Edges.of(FULL);
        Edges.fine("teach() to the first", Edges.of(FULL.replace("knows a b c d e f", "").replace("n age 1", "n age 1 knows a")), (x, h) -> x.teach(7, h, 0), 0);
        Edges.fine("teach() to the last", full, (x, h) -> x.teach(0, h, 0), 7);
        for (int h : new int[] {-1, 8, Integer.MIN_VALUE, Integer.MAX_VALUE}) {
            Edges.refused("teach() to", full, (x, other) -> x.teach(0, other, 0), h, 2);
        }
        Edges.bounds("teach() from", () -> {
            SeaFire x = Bench.of(FULL);
            x.teach(0, 7, 5);
            return x;
        }, (x, h) -> x.teach(h, 3, 5), 0, 7, 2);
        Edges.bounds("teach() of", full, (x, p) -> x.teach(0, 7, p), 0, 5, 2);
        Edges.refused("teach() ahead of 9", full, x -> x.teach(1, 8, 0), 2);
        Edges.refused("teach() ahead of 9", full, x -> x.teach(8, 8, 0), 2);
        Edges.refused("teach() ahead of 9", full, x -> x.teach(1, 2, 6), 2);
        Edges.refused("teach() of nobody", Edges.of("part a;"), x -> x.teach(0, 0, 0), 2);
        Edges.refused("teach() of nothing", Edges.of("hand a age 1;hand b age 1;"), x -> x.teach(0, 1, 0), 2);
        SeaFire x = Bench.of(FULL);
        Bench.due("the set that the second KNOWS then", x.teach(0, 7, 5), 32);
        Bench.due("and then", x.teach(0, 7, 0), 33);
    }

    /** "a living HAND learns a PART that he does not KNOW from a living one that does, or (from himself) from what is WRITTEN". */
    private static void whatCannotBeTaught() {
        String text = "life 50;part a;part b written;hand h age 1 knows a;hand i age 1;hand j age 1;hand k age 49 knows a;hand l age 49;";
        Edges.Start living = Edges.of(text);
        Edges.Start then = () -> {
            SeaFire x = Bench.of(text);
            x.year(1);
            x.capture(2);
            return x;
        };
        Edges.fine("from one that KNOWS it", living, (x, v) -> x.teach(0, 1, 0), 0);
        Edges.fine("from an old one that lives", living, (x, v) -> x.teach(3, 1, 0), 0);
        Edges.fine("from what is WRITTEN", living, (x, v) -> x.teach(1, 1, 1), 0);
        Edges.refused("who KNOWS it", living, x -> x.teach(0, 3, 0), 9);
        Edges.refused("from one that does not KNOW it", living, x -> x.teach(1, 2, 0), 9);
        Edges.refused("from another that does not KNOW it, though it is WRITTEN", living, x -> x.teach(0, 1, 1), 9);
        Edges.refused("from himself, what he KNOWS, not WRITTEN", living, x -> x.teach(0, 0, 0), 9);
        Edges.refused("from himself, not WRITTEN", living, x -> x.teach(1, 1, 0), 9);
        Edges.refused("from a dead one", then, x -> x.teach(3, 1, 0), 9);
        Edges.refused("to a dead one", then, x -> x.teach(0, 4, 0), 9);
        Edges.refused("to a dead one, from what is WRITTEN", then, x -> x.teach(4, 4, 1), 9);
        Edges.refused("to a CAPTURED one", then, x -> x.teach(0, 2, 0), 9);
        Edges.refused("to a CAPTURED one, from what is WRITTEN", then, x -> x.teach(2, 2, 1), 9);
        Edges.refused("from a CAPTURED one", () -> {
            SeaFire x = Bench.of(text);
            x.capture(0);
            return x;
        }, x -> x.teach(0, 1, 0), 9);
        SeaFire twice = Bench.of(text);
        Bench.due("once from what is WRITTEN", twice.teach(0, 0, 1), 3);
        Bench.refused(twice, "not twice", twice.teach(0, 0, 1), 9);
    }

    /** "WRITE: a PART that a living HAND KNOWS is WRITTEN; BURN: it is WRITTEN no more" (2; 9). */
    private static void writtenAndBurnt() {
        Edges.bounds("note() written", Edges.of(FULL), (x, p) -> Edges.answer(x.note(p, true)), 0, 5, 2);
        Edges.bounds("note() burnt", Edges.of(FULL.replaceAll("part (.)", "part $1 written")), (x, p) -> Edges.answer(x.note(p, false)), 0, 5, 2);
        Edges.refused("note() of no PART", SeaFire::new, x -> Edges.answer(x.note(0, true)), 2);
        Edges.refused("note() of no PART", SeaFire::new, x -> Edges.answer(x.note(0, false)), 2);
        Edges.refused("WRITTEN twice", Edges.of("part a written;hand h age 1 knows a;"), x -> Edges.answer(x.note(0, true)), 9);
        Edges.refused("burnt, but not WRITTEN", Edges.of(ONE), x -> Edges.answer(x.note(0, false)), 9);
        Edges.refused("nobody KNOWS it", Edges.of("part a;hand h age 1;"), x -> Edges.answer(x.note(0, true)), 9);
        Edges.refused("a dead one KNEW it", () -> Edges.late("life 10;part a;hand h age 9 knows a;", 1), x -> Edges.answer(x.note(0, true)), 9);
        Edges.refused("a CAPTURED one KNEW it", () -> {
            SeaFire x = Bench.of(ONE);
            x.capture(0);
            return x;
        }, x -> Edges.answer(x.note(0, true)), 9);
        SeaFire x = Bench.of(FULL);
        x.note(5, true);
        Bench.due("the last alone", x.many(10), 32);
        x.note(0, true);
        Bench.due("and the first", x.many(10), 33);
        x.note(5, false);
        Bench.due("the first alone", x.many(10), 1);
    }

    /** "CAPTURE: what the ENEMY has then (2; 9: it does not live)". */
    private static void captured() {
        Edges.bounds("capture()", Edges.of(FULL), (x, h) -> x.capture(h), 0, 7, 2);
        Edges.refused("capture() of nobody", SeaFire::new, x -> x.capture(0), 2);
        Edges.refused("a dead one", () -> Edges.late("life 10;part a;hand h age 9 knows a;", 1), x -> x.capture(0), 9);
        Edges.refused("a CAPTURED one", () -> {
            SeaFire x = Bench.of(ONE);
            x.capture(0);
            return x;
        }, x -> x.capture(0), 9);
        Bench.due("all PARTS that he KNOWS", Bench.of(FULL).capture(0), 63);
        Bench.due("none", Bench.of(FULL).capture(7), 0);
        SeaFire two = Bench.of("part a;part b;part c;hand h age 1 knows a;hand i age 1 knows b;");
        Bench.due("his", two.capture(1), 2);
        Bench.due("and what it has", two.capture(0), 3);
        SeaFire faded = Bench.of("life 99;part a fades 2;part b fades 3;hand h age 1 knows a b;");
        faded.year(2);
        Bench.due("not what he KNOWS no more", faded.capture(0), 2);
        Bench.due("WRITTEN ones it does not get", Bench.of("part a written;part b;hand h age 1 knows b;").capture(0), 2);
    }

    /** "(5: AGE 0 to 99, PRICE 0 to 99; 7: a ninth)". */
    private static void hired() {
        Edges.bounds("hire() by AGE", Edges::rich, (x, age) -> x.hire(age, 5), 0, 99, 5);
        Edges.bounds("hire() by PRICE", Edges::rich, (x, price) -> x.hire(5, price), 0, 99, 5);
        SeaFire x = new SeaFire();
        for (int h = 0; h < 8; h++) {
            Bench.due("hire", x.hire(90 + h, 99 - h), h);
        }
        for (int h = 0; h < 8; h++) {
            Bench.due("AGE", x.hand(h, 0), 90 + h);
            Bench.due("PRICE", x.hand(h, 1), 99 - h);
            Bench.due("KNOWS nothing", x.hand(h, 2), 0);
        }
        Bench.refused(x, "a ninth", x.hire(1, 1), 7);
        Edges.refused("a ninth", Edges.of(FULL), y -> y.hire(0, 0), 7);
        Edges.refused("5 ahead of 7", Edges.of(FULL), y -> y.hire(100, 0), 5);
        Edges.refused("5 ahead of 7", Edges.of(FULL), y -> y.hire(0, -1), 5);
        Edges.refused("a ninth, though the others are dead", () -> Edges.late(FULL, 99), y -> y.hire(0, 0), 7);
        Edges.fine("an eighth", Edges.of(FULL.replace("hand n age 1;", "")), (y, v) -> y.hire(v, v), 0);
    }

    /** "LIFE (what 0: 10 to 99), BORDER (1: 0 to 999) from now on (5)". */
    private static void ruled() {
        Edges.bounds("rule() of LIFE", Edges::rich, (x, much) -> Edges.answer(x.rule(0, much)), 10, 99, 5);
        Edges.bounds("rule() of BORDER", Edges::rich, (x, much) -> Edges.answer(x.rule(1, much)), 0, 999, 5);
        Edges.bounds("rule() of what", Edges::rich, (x, what) -> Edges.answer(x.rule(what, 50)), 0, 1, 5);
        SeaFire x = Bench.of("life 20;border 5;hand h age 5;spring s at 10 gives 1;");
        x.rule(0, 10);
        Bench.due("LIFE", x.many(3), 10);
        Bench.due("BORDER as it was", x.many(4), 5);
        x.year(4);
        Bench.due("lives", x.hand(0, 3), 0);
        x.rule(1, 10);
        Bench.due("LIFE as it was", x.many(3), 10);
        Bench.due("BORDER", x.many(4), 10);
        Bench.due("DIES", x.year(1), 1);
        Bench.due("store, from now on", x.many(7), 1);
        x.rule(0, 99);
        Bench.due("the dead stay dead", x.many(8), 0);
    }

    /** "So many JARS (1 to 9,999) come to the JARS, or to the store (9,999 at most): how many are there then (5)". */
    private static void supplied() {
        for (boolean store : new boolean[] {false, true}) {
            Edges.bounds("supply()", Edges::rich, (x, much) -> x.supply(much, store), 1, 9999, 5);
            int[][] rows = {{9997, 1, 9998}, {9998, 1, 9999}, {9999, 1, 9999}, {9998, 2, 9999}, {1, 9998, 9999}, {1, 9999, 9999}, {9999, 9999, 9999}, {1, 9997, 9998}};
            for (int[] row : rows) {
                SeaFire x = new SeaFire();
                Bench.due("supply(" + row[0] + ")", x.supply(row[0], store), row[0]);
                Bench.due("supply(" + row[1] + ") behind " + row[0], x.supply(row[1], store), row[2]);
                Bench.due("what is there", x.many(store ? 7 : 5), row[2]);
                Bench.due("the other", x.many(store ? 5 : 7), 0);
            }
        }
    }

    /** "The ENEMY finds a PART, or forgets it (2; 9: it is so)". */
    private static void leaked() {
        Edges.bounds("leak() found", Edges.of(FULL), (x, p) -> Edges.answer(x.leak(p, true)), 0, 5, 2);
        Edges.bounds("leak() forgotten", () -> {
            SeaFire x = Bench.of(FULL);
            x.capture(0);
            return x;
        }, (x, p) -> Edges.answer(x.leak(p, false)), 0, 5, 2);
        Edges.refused("leak() of no PART", SeaFire::new, x -> Edges.answer(x.leak(0, true)), 2);
        Edges.refused("leak() of no PART", SeaFire::new, x -> Edges.answer(x.leak(0, false)), 2);
        Edges.refused("it has it not", Edges.of(ONE), x -> Edges.answer(x.leak(0, false)), 9);
        Edges.refused("it has it", () -> {
            SeaFire x = Bench.of(ONE);
            x.leak(0, true);
            return x;
        }, x -> Edges.answer(x.leak(0, true)), 9);
        SeaFire x = Bench.of(FULL);
        x.leak(5, true);
        Bench.due("the last alone", x.many(11), 32);
        x.leak(0, true);
        x.leak(5, false);
        Bench.due("the first alone", x.many(11), 1);
        Bench.due("a PART that nobody KNOWS can leak", Bench.of("part a;").leak(0, true), true);
    }
}
