import java.util.Arrays;

/** The boundary cases of promises 9 to 17 and of the EMPIRE's text, each behind the sentence that names it. */
public final class TextEdgesTest {
    static final String[] KEYWORDS = ("life border jars part fades ways written hand age price knows spring at gives"
            + " year make use teach write burn capture any when known whole loop end stop").split(" ");
    private static final String[] NEW = {"part # ;", "hand # age 1;", "spring # at 1 gives 1;"};
    private static final String SIX = "part a;part b;part c;part d;part e;part f;";
    private static final String EIGHT = "hand g age 1;hand h age 1;hand i age 1;hand j age 1;"
            + "hand k age 1;hand l age 1;hand m age 1;hand n age 1;";
    private static final String FOUR = "spring o at 1 gives 1;spring p at 1 gives 1;spring q at 1 gives 1;spring r at 1 gives 1;";

    public static void main(String[] args) {
        noMoreThan900Bytes();
        theHighestOfEachIntFirst();
        theFirstBytesOfTheTape();
        theTapeIsEmptyThen();
        nothingButTheTapeAndTheFault();
        atMost900Bytes();
        bytesThatBeginTokens();
        bytesBetweenTokens();
        tokensGoAsLongAsTheyGo();
        numbersOfOneToFourDigits();
        namesOfOneToEightLetters();
        namesThatAreNone();
        oneNameOfOneThing();
        numbersThatCanBe();
        withoutBeingTold();
        sixEightFour();
        knownEachOnce();
        toldAhead();
        toldAlready();
        theEnd();
        whatCannotStandThere();
        theFirstAlongTheText();
        theLeastKindOfOneToken();
        inPlaceOfThatAhead();
        faultOfTheLatest();
        whatIsAskedOfMany();
        noSuchPartHandSpring();
        aTrayForWhatHandsKnow();
        Bench.end();
    }

    private static void blanks(SeaFire x, int feeds) {
        for (int i = 0; i < feeds; i++) {
            x.feed(0x20202020, 0x0A0A0A0A, 0x20202020, 0x0A0A0A0A, 0x20202020);
        }
    }

    /** "how many it has; NONE if there would be more than 900." */
    private static void noMoreThan900Bytes() {
        SeaFire x = new SeaFire();
        for (int i = 1; i <= 44; i++) {
            Bench.due("feed " + i, x.feed(0x20202020, 0x20202020, 0x20202020, 0x20202020, 0x20202020), 20 * i);
        }
        Bench.due("feed 45", x.feed(0x20202020, 0x20202020, 0x20206A61, 0x72732038, 0x3938373B), 900);
        Bench.due("feed 46", x.feed(0, 0, 0, 0, 0), SeaFire.NONE);
        Bench.due("feed 47", x.feed(0, 0, 0, 0, 0), SeaFire.NONE);
        Bench.due("what was there stays there: empire(900)", x.empire(900), 0);
        Bench.due("JARS", x.many(5), 8987);
        Bench.due("feed to an empty tape", x.feed(0, 0, 0, 0, 0), 20);
    }

    /** "Twenty bytes come behind those on the tape, the highest of each int first". */
    private static void theHighestOfEachIntFirst() {
        String text = "part pa;hand ha age 1 knows pa;jars 123;";
        SeaFire x = new SeaFire();
        for (int at = 0; at < 40; at += 20) {
            byte[] b = Bench.bytes(text.substring(at, at + 20));
            Bench.due("feed", x.feed(Bench.four(b, 0), Bench.four(b, 4), Bench.four(b, 8), Bench.four(b, 12), Bench.four(b, 16)), at + 20);
        }
        Bench.due("empire(40)", x.empire(40), 1);
        Bench.due("JARS", x.many(5), 123);
        Bench.due("KNOWS", x.hand(0, 2), 1);
    }

    private static SeaFire taped(int feeds) {
        SeaFire x = Bench.of(Bench.CITY, "use;");
        x.mark();
        blanks(x, feeds);
        return x;
    }

    /** "The first n bytes of the tape" (5); "Likewise the EMPIRES .. (5: above 300, too)". */
    private static void theFirstBytesOfTheTape() {
        Edges.bounds("empire()", () -> taped(2), (x, n) -> x.empire(n), 0, 40, 5);
        Edges.bounds("empire() of an empty tape", () -> taped(0), (x, n) -> x.empire(n), 0, 0, 5);
        Edges.bounds("empire() of a full tape", () -> taped(45), (x, n) -> x.empire(n), 0, 900, 5);
        Edges.bounds("empires()", () -> taped(2), (x, n) -> x.empires(n), 0, 40, 5);
        Edges.bounds("empires() of an empty tape", () -> taped(0), (x, n) -> x.empires(n), 0, 0, 5);
        Edges.bounds("empires() of 280", () -> taped(14), (x, n) -> x.empires(n), 0, 280, 5);
        Edges.bounds("empires() of 300", () -> taped(15), (x, n) -> x.empires(n), 0, 300, 5);
        Edges.bounds("empires() of 320", () -> taped(16), (x, n) -> x.empires(n), 0, 300, 5);
        Edges.bounds("empires() of a full tape", () -> taped(45), (x, n) -> x.empires(n), 0, 300, 5);
        SeaFire x = new SeaFire();
        Bench.tape(x, Bench.bytes("jars 77;"));
        Bench.due("no byte behind the first n: empire(6)", x.empire(6), SeaFire.NONE);
        Bench.due("fault(0)", x.fault(0), 2);
        Bench.tape(x, Bench.bytes("jars 7777;"));
        Bench.refused(x, "no digit behind the first n: empire(8)", x.empire(8), 10);
        Bench.due("fault(1)", x.fault(1), 8);
    }

    /** "(which is empty then, but for 5)"; "(but empire(), empires() with 10 the tape, and what fault() tells)". */
    private static void theTapeIsEmptyThen() {
        for (boolean plan : new boolean[] {false, true}) {
            SeaFire x = new SeaFire();
            blanks(x, 3);
            Bench.refused(x, "61 of 60", plan ? x.empires(61) : x.empire(61), 5);
            Bench.due("behind 5", x.feed(0, 0, 0, 0, 0), 80);
            Bench.due("0 of 80", plan ? x.empires(0) : x.empire(0), 0);
            Bench.due("behind 0", x.feed('!' << 24, 0, 0, 0, 0), 20);
            Bench.refused(x, "a FAULT", plan ? x.empires(1) : x.empire(1), 10);
            Bench.due("behind 10", x.feed(0, 0, 0, 0, 0), 20);
            Bench.due("fault(0)", x.fault(0), 1);
        }
    }

    /** "changes nothing but STATUS (but empire(), empires() with 10 the tape, and what fault() tells)". */
    private static void nothingButTheTapeAndTheFault() {
        String[] faulty = {"!", "life 20;border 5;jars 5;part a written;hand b age 5 knows a;spring c at 5 gives 5", "year 5;year 5;stop",
            "loop 2;loop 2;use;"};
        for (String text : faulty) {
            for (boolean plan : new boolean[] {false, true}) {
                SeaFire x = Edges.rich();
                x.empires(0);
                Bench.empires(x, "use;year 1;any;");
                long[] before = Edges.kept(x);
                Bench.refused(x, text, plan ? Bench.empires(x, text) : Bench.empire(x, text), 10);
                Bench.due("all else of " + text, Arrays.equals(before, Edges.kept(x)), true);
                Bench.due("the EMPIRES, too", x.live(0), 3);
                Bench.due("and MARKS", x.back(), 1);
                Bench.due("and MARKS", x.back(), 0);
            }
        }
    }

    /** "An EMPIRE is a TEXT of at most 900 bytes." */
    private static void atMost900Bytes() {
        String all = SIX + EIGHT + FOUR;
        String text = all + " ".repeat(900 - all.length() - 9) + "life 44;\n";
        Bench.due("bytes", text.length(), 900);
        SeaFire x = Edges.taken(text);
        Bench.due("LIFE", x.many(3), 44);
        Edges.faulty(" ".repeat(899) + "x", 2, 899);
        Edges.faulty(" ".repeat(899) + "!", 1, 899);
        Edges.faulty(" ".repeat(893) + "life 44", 2, 900);
        Edges.faulty("x".repeat(900), 2, 0);
        Edges.faulty("7".repeat(900), 1, 0);
        Edges.faulty(";".repeat(900), 2, 0);
        Edges.taken(" ".repeat(900));
        Edges.taken("");
    }

    private static boolean isLetter(int b) {
        return b >= 97 && b <= 122;
    }

    private static boolean isDigit(int b) {
        return b >= 48 && b <= 57;
    }

    private static boolean isSign(int b) {
        return b == 59 || b == 60 || b == 61 || b == 62;
    }

    /** "blanks (10, 32): WORDS (small letters), NUMBERS (1 to 4 digits), SIGNS ; < > ="; "1 no TOKEN begins so". */
    private static void bytesThatBeginTokens() {
        for (int b = 0; b < 256; b++) {
            String text = "byte " + b;
            byte[] bytes = {(byte) b};
            SeaFire x = new SeaFire();
            Bench.tape(x, bytes);
            boolean blank = b == 10 || b == 32;
            Bench.due(text, x.empire(1), blank ? 0 : SeaFire.NONE);
            Bench.due("status() of " + text, x.status(), blank ? 0 : 10);
            Bench.due("fault(0) of " + text, x.fault(0), blank ? 0 : isLetter(b) || isDigit(b) || isSign(b) ? 2 : 1);
            Bench.due("fault(1) of " + text, x.fault(1), blank ? SeaFire.NONE : 0);
        }
    }

    private static byte[] with(String ahead, int b, String behind) {
        byte[] bytes = Bench.bytes(ahead + " " + behind);
        bytes[ahead.length()] = (byte) b;
        return bytes;
    }

    private static void bytesBetweenTokens() {
        for (int b = 0; b < 256; b++) {
            byte[] bytes = with("jars", b, "5;");
            String text = "jars5; with byte " + b + " within";
            if (b == 10 || b == 32 || isDigit(b)) {
                SeaFire x = new SeaFire();
                Bench.tape(x, bytes);
                Bench.due(text, x.empire(bytes.length), 0);
                Bench.due("JARS of " + text, x.many(5), isDigit(b) ? 10 * (b - 48) + 5 : 5);
            } else {
                Edges.faulty(bytes, text, isLetter(b) || isSign(b) ? 2 : 1, isLetter(b) ? 0 : 4);
            }
        }
    }

    /** "TOKENS, as long as they go, between them blanks". */
    private static void tokensGoAsLongAsTheyGo() {
        Bench.due("without blanks", Edges.taken("life10;border0;jars5;").many(5), 5);
        Bench.due("with many", Edges.taken("\n \nlife\n\n10 \n;  jars  5\n;\n").many(5), 5);
        Bench.due("a digit and a letter", Edges.taken("part a fades5ways9written;").part(0, 1), 9);
        Edges.faulty("lifes 10;", 2, 0);
        Edges.faulty("life10border 5;", 2, 6);
        Edges.faulty("li fe 10;", 2, 0);
        Edges.faulty("life 1 0;", 4, 5);
        Edges.faulty("life 10 0;", 2, 8);
        Edges.faulty("partwritten;", 2, 0);
        Edges.faulty("part a b;", 2, 7);
    }

    /** "NUMBERS (1 to 4 digits)"; "1 .. (a NUMBER of 5 digits and more: at its first)". */
    private static void numbersOfOneToFourDigits() {
        Bench.due("one digit", Edges.taken("jars 5;").many(5), 5);
        Bench.due("four digits", Edges.taken("jars 9999;").many(5), 9999);
        Bench.due("four digits, three of them 0", Edges.taken("jars 0005;").many(5), 5);
        Bench.due("four of 0", Edges.taken("jars 0000;").many(5), 0);
        Edges.faulty("jars 00005;", 1, 5);
        Edges.faulty("jars 10000;", 1, 5);
        Edges.faulty("jars 123456;", 1, 5);
        Edges.faulty("jars 4294967301;", 1, 5);
        Edges.faulty("jars 12345", 1, 5);
        Edges.faulty("12345", 1, 0);
        Edges.faulty("1234", 2, 0);
        Edges.faulty("jars 5 12345;", 1, 7);
        Edges.faulty("jars 1234 5;", 2, 10);
    }

    private static void nameFits(String name, boolean fits) {
        for (String form : NEW) {
            String text = form.replace("#", name);
            if (fits) {
                Edges.taken(text);
            } else {
                Edges.faulty(text, 2, form.indexOf('#'));
            }
        }
        String known = "part thing;hand who age 1 knows ";
        if (fits) {
            Edges.faulty(known + name + ";", 3, known.length());
            Bench.due("KNOWS " + name, Edges.taken("part " + name + ";hand who age 1 knows " + name + ";").hand(0, 2), 1);
        } else {
            Edges.faulty(known + name + ";", 2, known.length());
        }
    }

    /** "NAME: a WORD of 1 to 8 letters"; "2 .. a WORD of 9 letters and more where a NAME must stand". */
    private static void namesOfOneToEightLetters() {
        nameFits("a", true);
        nameFits("z", true);
        nameFits("abcdefgh", true);
        nameFits("zzzzzzzz", true);
        nameFits("abcdefghi", false);
        nameFits("aaaaaaaaa", false);
        nameFits("abcdefghijklmnopqrstuvwxyz", false);
        nameFits("5", false);
        nameFits("<", false);
        Edges.faulty("part ;", 2, 5);
        Edges.faulty("hand ;", 2, 5);
        Edges.faulty("spring ;", 2, 7);
        Edges.taken("part aaaaaaa;part aaaaaaaa;part aaaaaa;");
        Edges.faulty("part aaaaaaaa;part aaaaaaaa;", 3, 19);
        Edges.faulty("borderborder 5;", 2, 0);
    }

    /** "that is none of life, border, .. stop." */
    private static void namesThatAreNone() {
        Bench.due("of these", KEYWORDS.length, 28);
        for (String word : KEYWORDS) {
            nameFits(word, false);
            nameFits(word + "s", !Arrays.asList(KEYWORDS).contains(word + "s"));
            nameFits(word.substring(1), !Arrays.asList(KEYWORDS).contains(word.substring(1)));
            nameFits(word.substring(0, word.length() - 1), true);
        }
    }

    /** "One NAME is of one thing alone."; "3 a new NAME that is taken". */
    private static void oneNameOfOneThing() {
        for (String first : NEW) {
            for (String second : NEW) {
                String ahead = first.replace("#", "same");
                Edges.faulty(ahead + second.replace("#", "same"), 3, ahead.length() + second.indexOf('#'));
                Edges.taken(ahead + second.replace("#", "samey"));
                Edges.taken(ahead + second.replace("#", "sam"));
            }
        }
        Edges.faulty(SIX + EIGHT + "spring f at 1 gives 1;", 3, SIX.length() + EIGHT.length() + 7);
        Edges.faulty(SIX + EIGHT + "spring n at 1 gives 1;", 3, SIX.length() + EIGHT.length() + 7);
    }

    private static void number(String ahead, int least, int most, String behind, Edges.Reading reading) {
        for (int v : new int[] {least, least + 1, most - 1, most}) {
            String text = ahead + v + behind;
            Bench.due(text, reading.of(Edges.taken(text)), v);
        }
        if (least > 0) {
            Edges.faulty(ahead + (least - 1) + behind, 4, ahead.length());
            Edges.faulty(ahead + 0 + behind, 4, ahead.length());
        }
        Edges.faulty(ahead + "-1" + behind, 1, ahead.length());
        Edges.faulty(ahead + (most + 1) + behind, most == 9999 ? 1 : 4, ahead.length());
        if (most < 9999) {
            Edges.faulty(ahead + 9999 + behind, 4, ahead.length());
        }
    }

    /** "LIFE (10 to 99 ..). BORDER (0 to 999 ..). JARS (0 to 9,999 ..) .. GIVES .. (0 to 99)"; "4 a NUMBER that can't be". */
    private static void numbersThatCanBe() {
        number("life ", 10, 99, ";", x -> x.many(3));
        number("border ", 0, 999, ";", x -> x.many(4));
        number("jars ", 0, 9999, ";", x -> x.many(5));
        number("part a fades ", 1, 99, ";", x -> x.part(0, 0));
        number("part a fades ", 1, 99, " ways 2 written;", x -> x.part(0, 0));
        number("part a ways ", 1, 9, ";", x -> x.part(0, 1));
        number("part a fades 7 ways ", 1, 9, " written;", x -> x.part(0, 1));
        number("hand a age ", 0, 99, ";", x -> x.hand(0, 0));
        number("hand a age ", 0, 99, " price 5 knows;", x -> x.hand(0, 0));
        number("hand a age 5 price ", 0, 99, ";", x -> x.hand(0, 1));
        number("hand a age 5 price ", 0, 99, " knows;", x -> x.hand(0, 1));
        number("spring a at ", 0, 999, " gives 3;", x -> x.spring(0, 0));
        number("spring a at 3 gives ", 0, 99, ";", x -> x.spring(0, 1));
    }

    /** "70 without", "100 without", "0 without", "30 without", "3 without", "WRITTEN or not", "10 without", "none without". */
    private static void withoutBeingTold() {
        SeaFire x = Edges.taken("part a;part b fades 5;part c ways 7;part d written;"
                + "hand h age 1;hand i age 1 price 8;hand j age 1 knows a;hand k age 1 knows;");
        Bench.due("LIFE", x.many(3), 70);
        Bench.due("BORDER", x.many(4), 100);
        Bench.due("JARS", x.many(5), 0);
        int[][] parts = {{30, 3, 0}, {5, 3, 0}, {30, 7, 0}, {30, 3, 1}};
        for (int p = 0; p < 4; p++) {
            for (int what = 0; what < 3; what++) {
                Bench.due("part(" + p + ", " + what + ")", x.part(p, what), parts[p][what]);
            }
        }
        int[][] hands = {{10, 0}, {8, 0}, {10, 1}, {10, 0}};
        for (int h = 0; h < 4; h++) {
            Bench.due("hand(" + h + ", 1)", x.hand(h, 1), hands[h][0]);
            Bench.due("hand(" + h + ", 2)", x.hand(h, 2), hands[h][1]);
        }
    }

    /** "PARTS, at most 6", "HANDS, at most 8", "SPRINGS, at most 4"; "6 a seventh part, a ninth hand, a fifth spring (at that WORD)". */
    private static void sixEightFour() {
        SeaFire full = Edges.taken(SIX + EIGHT + FOUR);
        Bench.due("PARTS", full.many(0), 6);
        Bench.due("HANDS", full.many(1), 8);
        Bench.due("SPRINGS", full.many(2), 4);
        Edges.taken(FOUR + EIGHT + SIX);
        for (String behind : new String[] {"part x;", "part", "part a;", "part !"}) {
            Edges.faulty(SIX + behind, 6, SIX.length());
            Edges.faulty(SIX + FOUR + behind, 6, SIX.length() + FOUR.length());
        }
        for (String behind : new String[] {"hand x age 1;", "hand", "hand g age 100;"}) {
            Edges.faulty(EIGHT + behind, 6, EIGHT.length());
            Edges.faulty(EIGHT + SIX + behind, 6, EIGHT.length() + SIX.length());
        }
        for (String behind : new String[] {"spring x at 1 gives 1;", "spring", "spring o at 1000;"}) {
            Edges.faulty(FOUR + behind, 6, FOUR.length());
            Edges.faulty(FOUR + EIGHT + behind, 6, FOUR.length() + EIGHT.length());
        }
        Edges.faulty(SIX + "hand x age 1 part;", 2, SIX.length() + 13);
    }

    /** "KNOWS PARTS (each once; none without)"; "5 .. a PART twice behind knows (at that NAME)". */
    private static void knownEachOnce() {
        Bench.due("none", Edges.taken(SIX + "hand x age 1 knows;").hand(0, 2), 0);
        Bench.due("all six", Edges.taken(SIX + "hand x age 1 knows f e d c b a;").hand(0, 2), 63);
        Bench.due("by each HAND", Edges.taken("part a;hand x age 1 knows a;hand y age 1 knows a;").part(0, 4), 3);
        Edges.faulty("part a;hand x age 1 knows a a;", 5, 28);
        Edges.faulty("part a;hand x age 1 knows a a", 5, 28);
        Edges.faulty(SIX + "hand x age 1 knows a b c d e f a;", 5, SIX.length() + 31);
        Edges.faulty(SIX + "hand x age 1 knows f a b f;", 5, SIX.length() + 25);
    }

    /** "what a PART names must be told ahead"; "3 .. a NAME that is no such one told ahead". */
    private static void toldAhead() {
        Edges.taken("part a;hand x age 1 knows a;");
        Edges.faulty("hand x age 1 knows a;part a;", 3, 19);
        Edges.faulty("part a;hand x age 1 knows x;", 3, 26);
        Edges.faulty("part a;hand y age 1;hand x age 1 knows y;", 3, 39);
        Edges.faulty("part a;spring s at 1 gives 1;hand x age 1 knows s;", 3, 48);
        Edges.faulty("part a;hand x age 1 knows aa;", 3, 26);
        Edges.faulty("part a;hand x age 1 knows a b;", 3, 28);
        Edges.faulty(SIX + "hand x age 1 knows a b c d e f g;", 3, SIX.length() + 31);
    }

    /** "5 life, border, jars told already (at that WORD)". */
    private static void toldAlready() {
        Edges.taken("life 20;border 20;jars 20;");
        for (String word : new String[] {"life", "border", "jars"}) {
            String once = word + " 20;";
            Edges.taken(once);
            Edges.faulty(once + once, 5, once.length());
            Edges.faulty(once + word, 5, once.length());
            Edges.faulty(once + SIX + word + " !", 5, once.length() + SIX.length());
            Edges.faulty(once + word + " 0;", 5, once.length());
        }
        Edges.faulty("life 20;border 20;jars 20;jars 1;", 5, 26);
        Edges.faulty("life 20;border 20;jars 20;border 1;", 5, 26);
        Edges.faulty("life 20;border 20;jars 20;life 20;", 5, 26);
        SeaFire again = Edges.taken("life 20;border 20;jars 20;");
        Bench.due("in another text", Bench.empire(again, "life 21;border 21;jars 21;"), 0);
        Bench.due("JARS", again.many(5), 21);
    }

    /** "2 it can't stand there (the end: the text's length". */
    private static void theEnd() {
        String[] texts = {"life", "life 20", "border", "border 5", "jars", "jars 5", "part", "part a", "part a fades", "part a fades 5",
            "part a ways", "part a ways 5", "part a written", "hand", "hand a", "hand a age", "hand a age 5", "hand a age 5 price",
            "hand a age 5 price 5", "hand a age 5 knows", "part p;hand a age 5 knows p", "spring", "spring a", "spring a at",
            "spring a at 5", "spring a at 5 gives", "spring a at 5 gives 5"};
        for (String text : texts) {
            Edges.faulty(text, 2, text.length());
            Edges.faulty(text + " \n ", 2, text.length() + 3);
        }
    }

    private static void whatCannotStandThere() {
        for (String word : KEYWORDS) {
            boolean begins = Arrays.asList("life", "border", "jars", "part", "hand", "spring").contains(word);
            Edges.faulty(word, 2, begins ? word.length() : 0);
            Edges.faulty("jars 5 " + word + ";", 2, 7);
            Edges.faulty("jars " + word + ";", 2, 5);
        }
        for (String sign : new String[] {";", "<", ">", "="}) {
            Edges.faulty(sign, 2, 0);
            Edges.faulty("jars " + sign + " 5;", 2, 5);
            Edges.faulty("jars 5;" + sign, 2, 7);
            if (!sign.equals(";")) {
                Edges.faulty("jars 5" + sign, 2, 6);
            }
        }
        Edges.faulty("part a written fades 5;", 2, 15);
        Edges.faulty("part a ways 5 fades 5;", 2, 14);
        Edges.faulty("part a fades 5 fades 5;", 2, 15);
        Edges.faulty("hand a price 5 age 5;", 2, 7);
        Edges.faulty("hand a age 5 knows price 5;", 2, 19);
        Edges.faulty("spring a gives 5 at 5;", 2, 9);
        Edges.faulty("a;", 2, 0);
    }

    /** "FAULTS, the first along the text". */
    private static void theFirstAlongTheText() {
        Edges.faulty("life 5; border 12345; go", 4, 5);
        Edges.faulty("life 12345; border 1000; go", 1, 5);
        Edges.faulty("go; life 12345;", 2, 0);
        Edges.faulty("part a; part a fades 0; !", 3, 13);
        Edges.faulty("part a fades 0; part a; !", 4, 13);
        Edges.faulty("jars 1; jars 12345; !", 5, 8);
        Edges.faulty(SIX + "part 12345; !", 6, SIX.length());
        Edges.faulty("! part part", 1, 0);
    }

    /** "(of one TOKEN the least kind)". */
    private static void theLeastKindOfOneToken() {
        Edges.faulty("life !;", 1, 5);
        Edges.faulty("part 12345;", 1, 5);
        Edges.faulty("life 20 !", 1, 8);
        Edges.faulty("life 20;part life;", 2, 13);
        Edges.faulty(SIX + "jars part;", 2, SIX.length() + 5);
        Edges.faulty("part a;part b a;", 2, 14);
        Edges.faulty("part a 100;", 2, 7);
        Edges.faulty("part a;hand b age 1 knows abcdefghi;", 2, 26);
    }

    /** "it is YEAR 0, all HANDS live, the store of SPRINGS is empty, no PART RUSTS, the ENEMY has none; there are no EMPIRES." */
    private static void inPlaceOfThatAhead() {
        String text = "life 60;part a;part b;hand h age 59 knows a;hand i age 5;spring s at 0 gives 9;";
        for (String next : new String[] {text, "", "part z fades 1;hand y age 1;"}) {
            SeaFire x = Bench.of(text, "year 3;any;any;any;");
            x.leak(1, true);
            x.live(5);
            Bench.due("YEARS went by", x.many(6), 3);
            int hands = Bench.empire(x, next);
            Bench.due("HANDS", hands, x.many(1));
            Bench.due("YEAR", x.many(6), 0);
            Bench.due("store", x.many(7), 0);
            Bench.due("all HANDS live", x.many(8), (1 << hands) - 1);
            Bench.due("the ENEMY has none", x.many(11), 0);
            for (int p = 0; p < x.many(0); p++) {
                Bench.due("no PART RUSTS", x.part(p, 3), 0);
            }
            for (int h = 0; h < hands; h++) {
                Bench.due("lives", x.hand(h, 3), 0);
            }
            Bench.refused(x, "no EMPIRES", x.live(0), 8);
            Bench.refused(x, "no EMPIRES", x.mean(0, 1), 8);
        }
        SeaFire tried = Bench.of(text + "jars 9;part c written;", "year 3;any;any;any;");
        tried.leak(1, true);
        tried.live(5);
        tried.mean(5, 3);
        Bench.empire(tried, "part a;part b;part c;hand g age 1;hand h age 1;");
        long[] many = {3, 2, 0, 70, 100, 0, 0, 0, 3, 0, 0, 0, 0};
        for (int what = 0; what < many.length; what++) {
            Bench.due("nothing is left of lives that were tried: many(" + what + ")", tried.many(what), many[what]);
        }
        Bench.due("nor of RUST", tried.part(0, 3) + tried.part(1, 3) + tried.part(2, 3), 0);
        Bench.due("nor of what was KNOWN", tried.hand(0, 2) + tried.hand(1, 2), 0);
        SeaFire old = Bench.of(text, "year 3;");
        old.live(0);
        Bench.refused(old, "10: the old one stays", Bench.empire(old, "part z;go"), 10);
        Bench.due("YEAR", old.many(6), 3);
        Bench.due("PARTS", old.many(0), 2);
        Bench.due("store", old.many(7), 27);
        Bench.due("EMPIRES", old.live(0), 1);
    }

    private static void faultIs(SeaFire x, int kind, int place) {
        Bench.due("fault(0)", x.fault(0), kind);
        Bench.due("fault(1)", x.fault(1), place);
        for (int what : new int[] {-1, 2, Integer.MIN_VALUE, Integer.MAX_VALUE}) {
            Bench.due("fault(" + what + ")", x.fault(what), SeaFire.NONE);
        }
    }

    /** "Of the latest of these with STATUS 0 or 10 .. (0 without one) .. (NONE without). NONE for others, and ahead of any." */
    private static void faultOfTheLatest() {
        SeaFire x = new SeaFire();
        faultIs(x, SeaFire.NONE, SeaFire.NONE);
        x.empire(1);
        x.empires(301);
        faultIs(x, SeaFire.NONE, SeaFire.NONE);
        Bench.empires(x, "  go");
        faultIs(x, 2, 2);
        x.empire(21);
        faultIs(x, 2, 2);
        x.empire(0);
        faultIs(x, 0, SeaFire.NONE);
        x.empires(1);
        faultIs(x, 0, SeaFire.NONE);
        Bench.empire(x, "!");
        faultIs(x, 1, 0);
        x.empires(0);
        faultIs(x, 0, SeaFire.NONE);
    }

    /** "PARTS (what 0) .. WHOLE, else 0 (12) (5)"; "what 0 .. 4"; "what 0 .. 3"; "what 0 .. 2". */
    private static void whatIsAskedOfMany() {
        Edges.bounds("many()", Edges::rich, (x, what) -> x.many(what), 0, 12, 5);
        Edges.bounds("part()", Edges::rich, (x, what) -> x.part(2, what), 0, 4, 5);
        Edges.bounds("hand()", Edges::rich, (x, what) -> x.hand(3, what), 0, 3, 5);
        Edges.bounds("spring()", Edges::rich, (x, what) -> x.spring(1, what), 0, 2, 5);
    }

    /** "2 no such PART, HAND, SPRING", ahead of 5. */
    private static void noSuchPartHandSpring() {
        Edges.Start full = Edges.of(SIX + EIGHT + FOUR);
        Edges.Start one = Edges.of("part a;hand b age 1;spring c at 1 gives 1;");
        Edges.bounds("part()", full, (x, p) -> x.part(p, 0), 0, 5, 2);
        Edges.bounds("part() of one", one, (x, p) -> x.part(p, 0), 0, 0, 2);
        Edges.bounds("hand()", full, (x, h) -> x.hand(h, 0), 0, 7, 2);
        Edges.bounds("hand() of one", one, (x, h) -> x.hand(h, 0), 0, 0, 2);
        Edges.bounds("spring()", full, (x, s) -> x.spring(s, 0), 0, 3, 2);
        Edges.bounds("spring() of one", one, (x, s) -> x.spring(s, 0), 0, 0, 2);
        Edges.refused("part() of none", SeaFire::new, (x, p) -> x.part(p, 0), 0, 2);
        Edges.refused("hand() of none", SeaFire::new, (x, h) -> x.hand(h, 0), 0, 2);
        Edges.refused("spring() of none", SeaFire::new, (x, s) -> x.spring(s, 0), 0, 2);
        Edges.refused("part(): 2 ahead of 5", one, (x, p) -> x.part(p, 5), 1, 2);
        Edges.refused("hand(): 2 ahead of 5", one, (x, h) -> x.hand(h, -1), 1, 2);
        Edges.refused("spring(): 2 ahead of 5", one, (x, s) -> x.spring(s, 3), -1, 2);
        Edges.fine("hand() of one that was hired", () -> {
            SeaFire x = new SeaFire();
            x.hire(1, 1);
            return x;
        }, (x, h) -> x.hand(h, 0), 0);
    }

    private static SeaFire trayOf(String text, int many) {
        SeaFire x = Bench.of(text);
        x.tray(2, 0, many);
        for (int i = 0; i < many; i++) {
            x.write(2, i, 99);
        }
        return x;
    }

    /** "What HANDS KNOW comes to a TRAY, by numbers: how many (1; 3; 4)". */
    private static void aTrayForWhatHandsKnow() {
        String eight = SIX + EIGHT.replace("hand n age 1;", "hand n age 1 knows a b c d e f;");
        for (int many : new int[] {8, 9, 60}) {
            SeaFire x = trayOf(eight, many);
            Bench.due("copyKnown(2)", x.copyKnown(2), 8);
            Bench.due("status()", x.status(), 0);
            Bench.due("what the last KNOWS", x.read(2, 7), 63);
            Bench.due("what the first KNOWS", x.read(2, 0), 0);
            if (many > 8) {
                Bench.due("behind the last", x.read(2, 8), 99);
            }
        }
        Edges.refused("copyKnown() to seven", () -> trayOf(eight, 7), (x, t) -> x.copyKnown(t), 2, 4);
        Edges.refused("copyKnown() to none", () -> trayOf("hand a age 1;", 0), (x, t) -> x.copyKnown(t), 2, 4);
        Edges.fine("copyKnown() of none", () -> trayOf("", 0), (x, t) -> x.copyKnown(t), 2);
        Edges.fine("copyKnown() of one", () -> trayOf("hand a age 1;", 1), (x, t) -> x.copyKnown(t), 2);
    }
}
