/** Promises 9 to 17: the tape, the EMPIRE, EMPIRES, FAULTS, and what is asked of them. */
public final class TextsTest {
    private static final String SIX = "part a;part b;part c;part d;part e;part f;";
    private static final String EIGHT = "hand a age 1;hand b age 1;hand c age 1;hand d age 1;hand e age 1;hand f age 1;hand g age 1;hand h age 1;";
    private static final String FOUR = "spring a at 0 gives 0;spring b at 0 gives 0;spring c at 0 gives 0;spring d at 0 gives 0;";

    public static void main(String[] args) {
        tapeHolds900();
        bytesComeHighestFirst();
        tapeIsEmptiedButFor5();
        textEndsWhereItEnds();
        empireIsTaken();
        withoutBeingTold();
        anEmpireInPlaceOfAnother();
        faultsOfEmpires();
        leastKindAndFirstPlace();
        plansAreTaken();
        faultsOfPlans();
        faultTellsTheLatest();
        manyPartHandSpring();
        knownIsCopied();
        Bench.end();
    }

    private static void tapeHolds900() {
        SeaFire x = new SeaFire();
        for (int i = 1; i <= 45; i++) {
            Bench.due("feed " + i, x.feed(0x20202020, 0x20202020, 0x20202020, 0x20202020, 0x20202020), 20 * i);
        }
        Bench.due("feed 46", x.feed(0, 0, 0, 0, 0), SeaFire.NONE);
        Bench.refused(x, "empire(901)", x.empire(901), 5);
        Bench.due("empire(900)", x.empire(900), 0);
        Bench.due("feed", x.feed(0, 0, 0, 0, 0), 20);
    }

    private static void bytesComeHighestFirst() {
        SeaFire x = new SeaFire();
        x.feed('l' << 24 | 'i' << 16 | 'f' << 8 | 'e', ' ' << 24 | '3' << 16 | '4' << 8 | ';', 0x0A0A0A0A, 0x20202020, 0);
        Bench.due("empire(16)", x.empire(16), 0);
        Bench.due("LIFE", x.many(3), 34);
        x.feed(0xFF000000, 0, 0, 0, 0);
        Bench.refused(x, "a byte of 255", x.empire(1), 10);
        Bench.due("fault(0)", x.fault(0), 1);
    }

    private static void tapeIsEmptiedButFor5() {
        SeaFire x = new SeaFire();
        Bench.tape(x, Bench.bytes("jars 7;"));
        Bench.refused(x, "empire(21)", x.empire(21), 5);
        Bench.refused(x, "empire(-1)", x.empire(-1), 5);
        Bench.refused(x, "empires(21)", x.empires(21), 5);
        Bench.due("feed behind 5", x.feed(0, 0, 0, 0, 0), 40);
        Bench.due("empire(7)", x.empire(7), 0);
        Bench.due("JARS", x.many(5), 7);
        Bench.refused(x, "empire(1) of an empty tape", x.empire(1), 5);
        Bench.tape(x, Bench.bytes("go"));
        Bench.refused(x, "empire(2)", x.empire(2), 10);
        Bench.due("feed behind 10", x.feed(0, 0, 0, 0, 0), 20);
        Bench.due("empires(0)", x.empires(0), 0);
        Bench.due("feed behind empires", x.feed(0, 0, 0, 0, 0), 20);
    }

    /** What lies on the tape behind the text is no part of it. */
    private static void textEndsWhereItEnds() {
        SeaFire x = new SeaFire();
        Bench.tape(x, Bench.bytes("life 20;"));
        Bench.refused(x, "life 2", x.empire(6), 10);
        Bench.due("fault(0)", x.fault(0), 4);
        Bench.due("fault(1)", x.fault(1), 5);
        Bench.tape(x, Bench.bytes("lifes 20;"));
        Bench.refused(x, "life", x.empire(4), 10);
        Bench.due("fault(0)", x.fault(0), 2);
        Bench.due("fault(1)", x.fault(1), 4);
    }

    private static void empireIsTaken() {
        SeaFire x = Bench.of(Bench.CITY);
        Bench.due("status()", x.status(), 0);
        Bench.due("fades", x.part(1, 0), 9);
        Bench.due("ways", x.part(1, 1), 4);
        Bench.due("written", x.part(1, 2), 1);
        Bench.due("not written", x.part(0, 2), 0);
        Bench.due("age", x.hand(2, 0), 57);
        Bench.due("price", x.hand(3, 1), 1);
        Bench.due("knows", x.hand(0, 2), 3);
        SeaFire tight = Bench.of("\nlife10;border0 ;jars9999;part\na fades0001 ways 9;hand b age0 price 0 knows a;spring c at999gives 99;");
        Bench.due("life", tight.many(3), 10);
        Bench.due("border", tight.many(4), 0);
        Bench.due("jars", tight.many(5), 9999);
        Bench.due("fades", tight.part(0, 0), 1);
        Bench.due("miles", tight.spring(0, 0), 999);
        Bench.due("knows", tight.hand(0, 2), 1);
        Bench.due("jars 0", Bench.of("jars 0;").many(5), 0);
        Bench.due("three WRITTEN", Bench.of("part a written;part b;part c written;part d written;").many(10), 13);
        SeaFire full = Bench.of(SIX);
        Bench.due("six PARTS", full.many(0), 6);
        Bench.due("eight HANDS", Bench.empire(full, EIGHT), 8);
        Bench.due("four SPRINGS", Bench.empire(full, FOUR), 0);
        Bench.due("four SPRINGS", full.many(2), 4);
        Bench.due("a NAME of eight letters", Bench.empire(full, "hand abcdefgh age 99 price 99 knows;"), 1);
        Bench.due("no text", Bench.empire(full, ""), 0);
        Bench.due("status() of no text", full.status(), 0);
    }

    private static void withoutBeingTold() {
        SeaFire x = Bench.of("part a;hand b age 5;");
        long[] many = {1, 1, 0, 70, 100, 0, 0, 0, 1, 0, 0, 0, 0};
        for (int what = 0; what < many.length; what++) {
            Bench.due("many(" + what + ")", x.many(what), many[what]);
        }
        Bench.due("fades", x.part(0, 0), 30);
        Bench.due("ways", x.part(0, 1), 3);
        Bench.due("price", x.hand(0, 1), 10);
        Bench.due("knows", x.hand(0, 2), 0);
    }

    private static void anEmpireInPlaceOfAnother() {
        SeaFire x = Bench.of(Bench.CITY, "use;");
        x.year(2);
        x.capture(0);
        x.mark();
        Bench.refused(x, "empire with a FAULT", Bench.empire(x, "part a;part a;"), 10);
        Bench.due("the old one stays", x.many(0), 3);
        Bench.due("and its YEAR", x.many(6), 2);
        Bench.due("and its EMPIRES", x.live(0), 1);
        Bench.empire(x, "part pump;hand ann age 1 knows pump;");
        long[] many = {1, 1, 0, 70, 100, 0, 0, 0, 1, 1, 0, 0, 1};
        for (int what = 0; what < many.length; what++) {
            Bench.due("new many(" + what + ")", x.many(what), many[what]);
        }
        Bench.due("no RUST", x.part(0, 3), 0);
        Bench.due("lives", x.hand(0, 3), 0);
        Bench.refused(x, "there are no EMPIRES", x.live(0), 8);
        Bench.due("MARKS stay", x.back(), 0);
        Bench.due("JARS of the old one", x.many(5), 2);
    }

    private static void fault(String text, int kind, int place) {
        SeaFire x = new SeaFire();
        Bench.refused(x, "empire: " + text, Bench.empire(x, text), 10);
        Bench.due("fault(0) of " + text, x.fault(0), kind);
        Bench.due("fault(1) of " + text, x.fault(1), place);
    }

    private static void faultsOfEmpires() {
        fault("!", 1, 0);
        fault("life 12345;", 1, 5);
        fault("life 00012;", 1, 5);
        fault("Life 12;", 1, 0);
        fault("life\t12;", 1, 4);
        fault("life 12;\r", 1, 8);
        fault("go;", 2, 0);
        fault("year 1;", 2, 0);
        fault("life;", 2, 4);
        fault("life 20", 2, 7);
        fault("life 20  \n", 2, 10);
        fault("life 20;;", 2, 8);
        fault("life < 20;", 2, 5);
        fault("part abcdefghi;", 2, 5);
        fault("part abcdefghijklmnopqrstuvwxyz;", 2, 5);
        fault("part age;", 2, 5);
        fault("part loop;", 2, 5);
        fault("part a ways 3 fades 3;", 2, 14);
        fault("part a written ways 3;", 2, 15);
        fault("hand a price 3;", 2, 7);
        fault("hand a age 3 knows life;", 2, 19);
        fault("hand a age 3 knows 4;", 2, 19);
        fault("part p;hand a age 3 knows p price 3;", 2, 28);
        fault("spring a gives 3;", 2, 9);
        fault("spring a at 3;", 2, 13);
        fault("part a;hand a age 3;", 3, 12);
        fault("hand a age 3;spring a at 1 gives 1;", 3, 20);
        fault("spring a at 1 gives 1;part a;", 3, 27);
        fault("hand a age 3 knows b;part b;", 3, 19);
        fault("part p;hand a age 3 knows p a;", 3, 28);
        for (String text : new String[] {"life 9;", "life 100;", "border 1000;"}) {
            fault(text, 4, text.indexOf(' ') + 1);
        }
        fault("part a fades 0;", 4, 13);
        fault("part a fades 100;", 4, 13);
        fault("part a ways 0;", 4, 12);
        fault("part a ways 10;", 4, 12);
        fault("hand a age 100;", 4, 11);
        fault("hand a age 1 price 100;", 4, 19);
        fault("spring a at 1000 gives 1;", 4, 12);
        fault("spring a at 1 gives 100;", 4, 20);
        fault("life 20;life 20;", 5, 8);
        fault("border 20;jars 1;border 20;", 5, 17);
        fault("jars 1;jars !", 5, 7);
        fault("part p;part q;hand a age 3 knows p q p;", 5, 37);
        fault(SIX + "hand h age 3 knows a b c d e f a;", 5, SIX.length() + 31);
        fault(SIX + "hand h age 3 knows a b c d e f g;", 3, SIX.length() + 31);
        fault(SIX + "part g;", 6, SIX.length());
        fault(EIGHT + "hand i age 1;", 6, EIGHT.length());
        fault(FOUR + "spring e at 0 gives 0;", 6, FOUR.length());
    }

    private static void leastKindAndFirstPlace() {
        fault(SIX + "part a fades 100;", 6, SIX.length());
        fault("life 200; !", 4, 5);
        fault("life 20 12345", 1, 8);
        fault("go !", 2, 0);
        fault("hand a age 1 knows 12345;", 1, 19);
    }

    private static void plansAreTaken() {
        SeaFire x = Bench.of(Bench.CITY);
        Bench.due("no STEP", Bench.empires(x, ""), 0);
        Bench.due("one STEP", Bench.empires(x, "stop;"), 1);
        Bench.due("end is none", Bench.empires(x, "loop 99;when jars=9999;when known pump;any;end;end;end;"), 4);
        Bench.due("all of them", Bench.empires(x, "year 20;make 999;use;teach ann ann heat;write heat;burn heat;"
                + "capture dot;any;when whole;end;loop 1;end;stop;"), 11);
        String thirty = "use;use;use;use;use;use;use;use;use;use;";
        Bench.due("thirty", Bench.empires(x, thirty + thirty + thirty), 30);
        Bench.due("thirty, and ends", Bench.empires(x, thirty + thirty + "use;use;use;use;use;use;use;loop 1;loop 1;loop 1;end;end;end;"), 30);
        String long300 = "use;" + " ".repeat(296);
        Bench.due("300 bytes", Bench.empires(x, long300), 1);
        Bench.tape(x, Bench.bytes(long300 + " "));
        Bench.refused(x, "empires(301)", x.empires(301), 5);
        Bench.refused(x, "empires(-1)", x.empires(-1), 5);
        Bench.due("the tape stays", x.feed(0, 0, 0, 0, 0), 340);
        Bench.due("empires(4)", x.empires(4), 1);
    }

    private static void planFault(String text, int kind, int place) {
        SeaFire x = Bench.of(Bench.CITY, "use;use;");
        Bench.refused(x, "empires: " + text, Bench.empires(x, text), 10);
        Bench.due("fault(0) of " + text, x.fault(0), kind);
        Bench.due("fault(1) of " + text, x.fault(1), place);
        x.live(0);
        Bench.due("the old EMPIRES stay", x.many(5), 0);
    }

    private static void faultsOfPlans() {
        planFault("use !", 1, 4);
        planFault("year 12345;", 1, 5);
        planFault("life 20;", 2, 0);
        planFault("end;", 2, 0);
        planFault("loop 2;end;end;", 2, 11);
        planFault("loop 2;use;", 2, 11);
        planFault("loop 2;use;end", 2, 14);
        planFault("when;", 2, 4);
        planFault("when jars 3;", 2, 10);
        planFault("when jars;", 2, 9);
        planFault("when jars < ;", 2, 12);
        planFault("when known;", 2, 10);
        planFault("when whole pump;", 2, 11);
        planFault("when stop;", 2, 5);
        planFault("teach ann bob;", 2, 13);
        planFault("write use;", 2, 6);
        planFault("capture abcdefghi;", 2, 8);
        planFault("any ann;", 2, 4);
        planFault("year;", 2, 4);
        planFault("teach pump ann heat;", 3, 6);
        planFault("teach ann heat heat;", 3, 10);
        planFault("teach ann bob ann;", 3, 14);
        planFault("write ann;", 3, 6);
        planFault("burn ann;", 3, 5);
        planFault("burn who;", 3, 5);
        planFault("capture pump;", 3, 8);
        planFault("capture east;", 3, 8);
        planFault("when known bob;end;", 3, 11);
        planFault("year 0;", 4, 5);
        planFault("year 21;", 4, 5);
        planFault("make 0;", 4, 5);
        planFault("make 1000;", 4, 5);
        planFault("loop 0;", 4, 5);
        planFault("loop 100;", 4, 5);
        String thirty = "use;".repeat(30);
        planFault(thirty + "use;", 6, 120);
        planFault(thirty + "go;", 2, 120);
        planFault("use;".repeat(27) + "loop 1;loop 1;loop 1;loop 1;", 6, 129);
        planFault("loop 1;when whole;loop 1;when whole;", 7, 25);
        planFault("when whole;when whole;when whole;loop 1;", 7, 33);
    }

    private static void faultTellsTheLatest() {
        SeaFire x = new SeaFire();
        for (int what = -1; what < 3; what++) {
            Bench.due("fault ahead of any", x.fault(what), SeaFire.NONE);
        }
        Bench.empire(x, "life 5;");
        Bench.due("fault(0)", x.fault(0), 4);
        Bench.due("fault(1)", x.fault(1), 5);
        Bench.due("fault(2)", x.fault(2), SeaFire.NONE);
        Bench.due("fault(-1)", x.fault(-1), SeaFire.NONE);
        x.empire(99);
        Bench.due("fault(0) behind 5", x.fault(0), 4);
        Bench.empires(x, "use;");
        Bench.due("fault(0) behind 0", x.fault(0), 0);
        Bench.due("fault(1) behind 0", x.fault(1), SeaFire.NONE);
        Bench.empires(x, "use");
        Bench.due("fault(0)", x.fault(0), 2);
        Bench.due("fault(1)", x.fault(1), 3);
        Bench.empire(x, "");
        Bench.due("fault(0)", x.fault(0), 0);
    }

    private static void manyPartHandSpring() {
        SeaFire x = Bench.of(Bench.CITY);
        x.year(4);
        x.capture(3);
        x.capture(1);
        long[] many = {3, 4, 2, 60, 50, 2, 4, 24, 1, 3, 2, 4, 0};
        for (int what = 0; what < many.length; what++) {
            Bench.due("many(" + what + ")", x.many(what), many[what]);
            Bench.due("status()", x.status(), 0);
        }
        Bench.due("WHOLE for now", Bench.of("part a fades 1;hand h age 1 knows a;").many(12), 1);
        Bench.refused(x, "many(13)", x.many(13), 5);
        Bench.refused(x, "many(-1)", x.many(-1), 5);
        Bench.due("rust", x.part(2, 3), 4);
        Bench.due("knowers", x.part(0, 4), 1);
        Bench.due("knowers", x.part(2, 4), 0);
        Bench.refused(x, "part(3, 9)", x.part(3, 9), 2);
        Bench.refused(x, "part(-1, 0)", x.part(-1, 0), 2);
        Bench.refused(x, "part(0, 5)", x.part(0, 5), 5);
        Bench.refused(x, "part(0, -1)", x.part(0, -1), 5);
        Bench.due("age", x.hand(0, 0), 54);
        Bench.due("age of the dead", x.hand(2, 0), 60);
        Bench.due("what the dead KNEW", x.hand(2, 2), 5);
        Bench.due("dead", x.hand(2, 3), 1);
        Bench.due("age of the CAPTURED", x.hand(1, 0), 34);
        Bench.due("CAPTURED", x.hand(1, 3), 2);
        Bench.due("lives", x.hand(0, 3), 0);
        Bench.refused(x, "hand(4, 9)", x.hand(4, 9), 2);
        Bench.refused(x, "hand(-1, 0)", x.hand(-1, 0), 2);
        Bench.refused(x, "hand(0, 4)", x.hand(0, 4), 5);
        Bench.refused(x, "hand(0, -1)", x.hand(0, -1), 5);
        x.rule(1, 90);
        Bench.due("on this side", x.spring(1, 2), 1);
        x.rule(1, 89);
        Bench.due("on the other", x.spring(1, 2), 0);
        Bench.due("gives", x.spring(1, 1), 9);
        Bench.refused(x, "spring(2, 9)", x.spring(2, 9), 2);
        Bench.refused(x, "spring(-1, 0)", x.spring(-1, 0), 2);
        Bench.refused(x, "spring(0, 3)", x.spring(0, 3), 5);
        Bench.refused(x, "spring(0, -1)", x.spring(0, -1), 5);
        Bench.refused(x, "spring(greatest, 0)", x.spring(Integer.MAX_VALUE, 0), 2);
    }

    private static void knownIsCopied() {
        SeaFire x = Bench.of(Bench.CITY);
        x.capture(0);
        Bench.fill(x, 0, 0, 9, 9, 9, 9, 9);
        Bench.due("copyKnown(0)", x.copyKnown(0), 4);
        long[] knows = {3, 4, 5, 0, 9};
        for (int i = 0; i < 5; i++) {
            Bench.due("read(0, " + i + ")", x.read(0, i), knows[i]);
        }
        Bench.fill(x, 1, 3, 9, 9, 9);
        Bench.refused(x, "copyKnown(1)", x.copyKnown(1), 4);
        Bench.due("read(1, 0)", x.read(1, 0), 9);
        Bench.refused(x, "copyKnown(2)", x.copyKnown(2), 3);
        Bench.refused(x, "copyKnown(4)", x.copyKnown(4), 1);
        SeaFire none = new SeaFire();
        none.tray(0, 0, 0);
        Bench.due("no HANDS", none.copyKnown(0), 0);
        Bench.due("status()", none.status(), 0);
    }
}
