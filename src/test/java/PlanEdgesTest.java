import java.util.Arrays;
import java.util.List;

/** The boundary cases of the EMPIRES' text, each behind the sentence that names it. */
public final class PlanEdgesTest {
    private static final List<String> STEPS = Arrays.asList("year", "make", "use", "teach", "write", "burn", "capture", "any",
            "when", "loop", "stop");

    public static void main(String[] args) {
        atMost300Bytes();
        bytesThatBeginTokens();
        numbersOfOneToFourDigits();
        wordsThatBeginAStep();
        theEnd();
        endsAndBeginnings();
        noSuchName();
        namesOfOneToEightLetters();
        numbersThatCanBe();
        comparing();
        atMost30Steps();
        withinThreeOthers();
        theFirstAlongTheText();
        theLeastKindOfOneToken();
        anyNumberOfSteps();
        theOldOnesStay();
        Bench.end();
    }

    /** "EMPIRES are a TEXT of at most 300 bytes". */
    private static void atMost300Bytes() {
        Edges.planned(" ".repeat(296) + "use;", 1);
        Edges.planned("use" + " ".repeat(296) + ";", 1);
        Edges.planned(" ".repeat(300), 0);
        Edges.misplanned(" ".repeat(297) + "use", 2, 300);
        Edges.misplanned(" ".repeat(299) + "!", 1, 299);
        Edges.misplanned("x".repeat(300), 2, 0);
        Edges.misplanned("7".repeat(300), 1, 0);
        SeaFire x = Bench.of(Bench.CITY);
        Bench.tape(x, Bench.bytes(" ".repeat(297) + "use;"));
        Bench.refused(x, "empires(301)", x.empires(301), 5);
        Bench.refused(x, "empires(300)", x.empires(300), 10);
        Bench.due("fault(1)", x.fault(1), 300);
        Bench.due("the tape is empty", x.feed(0, 0, 0, 0, 0), 20);
    }

    /** "of such TOKENS"; "FAULTS: 1, 2 as above". */
    private static void bytesThatBeginTokens() {
        for (int b = 0; b < 256; b++) {
            byte[] bytes = Bench.bytes("use;use ;");
            bytes[7] = (byte) b;
            boolean letter = b >= 'a' && b <= 'z';
            boolean digit = b >= '0' && b <= '9';
            String text = "use;use; with byte " + b + " within";
            if (b == 10 || b == 32) {
                SeaFire x = Bench.of(Bench.CITY);
                Bench.tape(x, bytes);
                Bench.due(text, x.empires(bytes.length), 2);
            } else if (b == ';') {
                Edges.misplanned(bytes, text, 2, 8);
            } else if (letter) {
                Edges.misplanned(bytes, text, 2, 4);
            } else {
                Edges.misplanned(bytes, text, digit || b == '<' || b == '>' || b == '=' ? 2 : 1, 7);
            }
        }
    }

    private static void numbersOfOneToFourDigits() {
        Edges.planned("year 0020;", 1);
        Edges.misplanned("year 00020;", 1, 5);
        Edges.misplanned("year 12345;", 1, 5);
        Edges.misplanned("when jars = 10000;", 1, 12);
        Edges.misplanned("use 12345;", 1, 4);
        Edges.misplanned("12345", 1, 0);
        Edges.misplanned("1234", 2, 0);
    }

    /** "STEP: year NUMBER ; or make NUMBER ; or use ; .. or stop ;". */
    private static void wordsThatBeginAStep() {
        for (String word : TextEdgesTest.KEYWORDS) {
            boolean alone = word.equals("use") || word.equals("any") || word.equals("stop");
            if (alone) {
                Edges.planned(word + ";", 1);
                Edges.misplanned(word, 2, word.length());
            } else {
                Edges.misplanned(word + ";", 2, STEPS.contains(word) ? word.length() : 0);
            }
            Edges.misplanned("use " + word + ";", 2, 4);
            Edges.misplanned("use;" + word + " <", 2, STEPS.contains(word) ? word.length() + 5 : 4);
        }
        Edges.misplanned("ann;", 2, 0);
        Edges.misplanned("users;", 2, 0);
        Edges.misplanned("us;", 2, 0);
        Edges.misplanned("captures;", 2, 0);
        Edges.misplanned("abcdefghi;", 2, 0);
    }

    /** "2 .. (the end: the text's length)". */
    private static void theEnd() {
        String[] texts = {"year", "year 5", "make", "make 5", "use", "teach", "teach ann", "teach ann bob", "teach ann bob pump",
            "write", "write pump", "burn", "burn pump", "capture", "capture ann", "any", "when", "when known", "when known pump",
            "when whole", "when jars", "when jars <", "when jars < 5", "loop", "loop 5", "stop", "loop 5;end", "loop 5;use"};
        for (String text : texts) {
            Edges.misplanned(text, 2, text.length());
            Edges.misplanned(text + "\n  ", 2, text.length() + 3);
        }
    }

    /** "an end without a beginning; the text's end ahead of an end: 2". */
    private static void endsAndBeginnings() {
        Edges.misplanned("end;", 2, 0);
        Edges.misplanned("use;end;", 2, 4);
        Edges.misplanned("loop 1;end;end;", 2, 11);
        Edges.misplanned("loop 1;loop 1;loop 1;end;end;end;end;", 2, 33);
        Edges.misplanned("loop 1;", 2, 7);
        Edges.misplanned("loop 1;\n", 2, 8);
        Edges.misplanned("when whole;use;", 2, 15);
        Edges.misplanned("loop 1;loop 1;loop 1;end;end;", 2, 29);
        Edges.misplanned("loop 1;end", 2, 10);
        Edges.planned("loop 1;end;", 1);
        Edges.planned("loop 1;end;when whole;end;loop 1;end;", 3);
        Edges.planned("loop 1;loop 1;loop 1;end;end;end;", 3);
    }

    private static void names(String form, String fitting, String... others) {
        int place = form.indexOf('#');
        Edges.planned(form.replace("#", fitting), 1);
        for (String other : others) {
            Edges.misplanned(form.replace("#", other), 3, place);
        }
        for (String word : TextEdgesTest.KEYWORDS) {
            Edges.misplanned(form.replace("#", word), 2, place);
        }
        Edges.misplanned(form.replace("#", "nobodyss"), 3, place);
        Edges.misplanned(form.replace("#", "nobodysss"), 2, place);
        Edges.misplanned(form.replace("#", "5"), 2, place);
        Edges.misplanned(form.replace("#", "!"), 1, place);
        Edges.misplanned(form.replace("#", ";"), 2, place);
    }

    /** "3 a NAME that is no such one (teach: two HANDS, a PART; write, burn, known: a PART; capture: a HAND)". */
    private static void noSuchName() {
        names("teach # bob pump;", "ann", "pump", "east", "an");
        names("teach ann # juice;", "ann", "pump", "east", "annn");
        names("teach ann bob #;", "pump", "ann", "east", "pum");
        names("write #;", "juice", "ann", "east", "juic");
        names("burn #;", "juice", "ann", "far", "juicy");
        names("capture #;", "dot", "pump", "far", "do");
        names("when known #;end;", "heat", "dot", "far", "hea");
        SeaFire hired = Bench.of("part a;");
        hired.hire(1, 1);
        Bench.refused(hired, "who is hired has no NAME", Bench.empires(hired, "capture a;"), 10);
        Bench.due("fault(0)", hired.fault(0), 3);
        SeaFire none = new SeaFire();
        Bench.refused(none, "there is no HAND", Bench.empires(none, "capture a;"), 10);
        Bench.due("fault(0)", none.fault(0), 3);
        Bench.due("fault(1)", none.fault(1), 8);
    }

    private static void namesOfOneToEightLetters() {
        SeaFire x = Bench.of("part a;part abcdefgh;hand b age 1;hand zyxwvuts age 1;");
        Bench.due("one letter, and eight", Bench.empires(x, "teach b zyxwvuts abcdefgh;teach zyxwvuts b a;write abcdefgh;capture b;"), 4);
        for (String longer : new String[] {"abcdefghi", "abcdefghabcdefgh"}) {
            Bench.refused(x, "write " + longer, Bench.empires(x, "write " + longer + ";"), 10);
            Bench.due("fault(0)", x.fault(0), 2);
            Bench.due("fault(1)", x.fault(1), 6);
        }
        Bench.refused(x, "seven of the eight", Bench.empires(x, "write abcdefg;"), 10);
        Bench.due("fault(0)", x.fault(0), 3);
    }

    private static void number(String ahead, int least, int most, String behind) {
        for (int v : new int[] {least, least + 1, most - 1, most}) {
            Edges.planned(ahead + v + behind, 1);
        }
        if (least > 0) {
            Edges.misplanned(ahead + (least - 1) + behind, 4, ahead.length());
        }
        Edges.misplanned(ahead + "-1" + behind, 1, ahead.length());
        Edges.misplanned(ahead + (most + 1) + behind, most == 9999 ? 1 : 4, ahead.length());
        if (most < 9999) {
            Edges.misplanned(ahead + 9999 + behind, 4, ahead.length());
        }
    }

    /** "year: so many (1 to 20); make: 1 to 999", "when jars: 0 to 9,999. loop n (1 to 99)"; "4 a NUMBER that can't be". */
    private static void numbersThatCanBe() {
        number("year ", 1, 20, ";");
        number("make ", 1, 999, ";");
        number("loop ", 1, 99, ";end;");
        number("when jars < ", 0, 9999, ";end;");
        number("when jars > ", 0, 9999, ";end;");
        number("when jars = ", 0, 9999, ";end;");
    }

    /** "COMPARES: < or > or =". */
    private static void comparing() {
        for (String sign : new String[] {"<", ">", "="}) {
            Edges.planned("when jars" + sign + "5;end;", 1);
            Edges.misplanned("when jars" + sign + sign + "5;end;", 2, 10);
            Edges.misplanned("when jars" + sign + ";end;", 2, 10);
            Edges.misplanned("when known" + sign + "5;end;", 2, 10);
            Edges.misplanned("when whole" + sign + "5;end;", 2, 10);
        }
        Edges.misplanned("when jars;5;end;", 2, 9);
        Edges.misplanned("when jars 5;end;", 2, 10);
        Edges.misplanned("when jars ? 5;end;", 1, 10);
        Edges.misplanned("when 5 < jars;end;", 2, 5);
    }

    /** "6 a 31st STEP (at its WORD; end is none)". */
    private static void atMost30Steps() {
        Edges.planned("use;".repeat(29), 29);
        Edges.planned("use;".repeat(30), 30);
        for (String word : STEPS) {
            Edges.misplanned("use;".repeat(30) + word, 6, 120);
            Edges.misplanned("use;".repeat(30) + word + " !", 6, 120);
        }
        Edges.misplanned("use;".repeat(31), 6, 120);
        Edges.misplanned("use;".repeat(30) + "end;", 2, 120);
        Edges.misplanned("use;".repeat(30) + "jars 5;", 2, 120);
        String loops = "loop 1;end;".repeat(25);
        Edges.planned(loops + "use;use;use;use;use;", 30);
        Edges.misplanned(loops + "use;use;use;use;use;any;", 6, 295);
        Edges.planned("loop 1;loop 1;loop 1;" + "use;".repeat(27) + "end;end;end;", 30);
        Edges.misplanned("loop 1;loop 1;loop 1;" + "use;".repeat(28) + "end;end;end;", 6, 129);
        Edges.planned("loop 1;end;loop 1;end;" + "use;".repeat(27) + "loop 1;end;", 30);
        Edges.misplanned("loop 1;end;loop 1;end;" + "use;".repeat(28) + "loop 1;end;", 6, 134);
    }

    /** "7 a when, loop within three others (at its WORD)". */
    private static void withinThreeOthers() {
        String[] words = {"loop 1;", "when whole;"};
        for (int kinds = 0; kinds < 16; kinds++) {
            String three = words[kinds & 1] + words[kinds >> 1 & 1] + words[kinds >> 2 & 1];
            String fourth = words[kinds >> 3 & 1];
            Edges.planned(three + "use;end;end;end;", 4);
            Edges.misplanned(three + fourth + "use;end;end;end;end;", 7, three.length());
            Edges.misplanned(three + fourth.substring(0, 4), 7, three.length());
            Edges.planned(three + "end;" + fourth + "end;end;end;", 4);
            Edges.planned(three + "end;end;end;" + fourth + "end;", 4);
            Edges.misplanned(three + "end;" + fourth + fourth, 7, three.length() + 4 + fourth.length());
        }
    }

    private static void theFirstAlongTheText() {
        Edges.misplanned("year 0; ! end;", 4, 5);
        Edges.misplanned("! year 0;", 1, 0);
        Edges.misplanned("write ann; year 12345;", 3, 6);
        Edges.misplanned("teach ann pump ann;", 3, 10);
        Edges.misplanned("end; write ann;", 2, 0);
        Edges.misplanned("loop 1; write ann;", 3, 14);
    }

    /** "(of one TOKEN the least kind)": 6 ahead of 7, 2 ahead of 6. */
    private static void theLeastKindOfOneToken() {
        Edges.misplanned("loop 1;loop 1;loop 1;" + "use;".repeat(27) + "loop 1;", 6, 129);
        Edges.misplanned("loop 1;loop 1;loop 1;" + "use;".repeat(26) + "loop 1;", 7, 125);
        Edges.misplanned("use;".repeat(30) + "go;", 2, 120);
        Edges.misplanned("use;".repeat(30) + "!", 1, 120);
        Edges.misplanned("loop 1;loop 1;loop 1;use loop", 2, 25);
    }

    /** "EMPIRES: {STEP}", "({ } any number of times". */
    private static void anyNumberOfSteps() {
        Edges.planned("", 0);
        Edges.planned(" \n", 0);
        Edges.planned("use;", 1);
        Edges.planned("loop 1;end;", 1);
        Edges.planned("when whole;end;", 1);
        Edges.planned("when whole;use;use;end;", 3);
    }

    /** "Likewise the EMPIRES: .. 10: the old one stays"; an EMPIRE that is taken has none. */
    private static void theOldOnesStay() {
        SeaFire x = Bench.of(Bench.CITY, "use;use;");
        Bench.refused(x, "a FAULT", Bench.empires(x, "year 1;year 1;year 1"), 10);
        Bench.due("live(0)", x.live(0), 2);
        Bench.due("YEAR", x.many(6), 0);
        Bench.refused(x, "a FAULT within three", Bench.empires(x, "loop 1;loop 1;loop 1;!"), 10);
        Bench.due("begins anew", Bench.empires(x, "loop 1;loop 1;loop 1;end;end;end;"), 3);
        Bench.refused(x, "a FAULT within one", Bench.empires(x, "loop 1;use"), 10);
        Bench.refused(x, "an end of nothing", Bench.empires(x, "end;"), 10);
        Bench.due("other ones", Bench.empires(x, "year 1;year 1;year 1;"), 3);
        Bench.due("live(0)", x.live(0), 3);
        Bench.due("YEAR", x.many(6), 3);
        Bench.due("an EMPIRE with a FAULT leaves them", Bench.empire(x, "!"), SeaFire.NONE);
        Bench.due("live(0)", x.live(0), 3);
        Bench.empire(x, "");
        Bench.refused(x, "none", x.live(0), 8);
    }
}
