import java.nio.charset.StandardCharsets;
import java.util.Arrays;

/** What the tests share: texts for the tape, and the count of wrong answers. */
final class Bench {
    /** The EMPIRE that most tests begin with. */
    static final String CITY = "life 60;border 50;jars 2;"
            + "part pump fades 5 ways 2;part heat fades 9 ways 4 written;part juice fades 7;"
            + "hand ann age 50 price 8 knows pump heat;hand bob age 30 price 5 knows juice;"
            + "hand cid age 57 knows pump juice;hand dot age 20 price 1;"
            + "spring east at 40 gives 6;spring far at 90 gives 9;";

    private static int asked = 0;
    private static int wrong = 0;

    private Bench() {
    }

    static void due(String call, long got, long want) {
        asked++;
        if (got != want) {
            wrong++;
            System.out.println(call + " answered " + got + ", due is " + want);
        }
    }

    static void due(String call, boolean got, boolean want) {
        due(call, got ? 1 : 0, want ? 1 : 0);
    }

    /** The answer of a call that is refused, and its STATUS. */
    static void refused(SeaFire x, String call, long got, int status) {
        due(call, got, SeaFire.NONE);
        due("status() of " + call, x.status(), status);
    }

    static void refused(SeaFire x, String call, boolean got, int status) {
        due(call, got, false);
        due("status() of " + call, x.status(), status);
    }

    static void fraction(SeaFire x, String call, long top, long bottom) {
        due("top() of " + call, x.top(), top);
        due("bottom() of " + call, x.bottom(), bottom);
    }

    /** Text to the tape; the rest of the last twenty bytes is blank. */
    static void tape(SeaFire x, byte[] text) {
        for (int from = 0; from < text.length; from += 20) {
            byte[] piece = new byte[20];
            Arrays.fill(piece, (byte) ' ');
            System.arraycopy(text, from, piece, 0, Math.min(20, text.length - from));
            x.feed(four(piece, 0), four(piece, 4), four(piece, 8), four(piece, 12), four(piece, 16));
        }
    }

    static int four(byte[] bytes, int at) {
        return (bytes[at] & 255) << 24 | (bytes[at + 1] & 255) << 16 | (bytes[at + 2] & 255) << 8 | bytes[at + 3] & 255;
    }

    static byte[] bytes(String text) {
        return text.getBytes(StandardCharsets.ISO_8859_1);
    }

    static int empire(SeaFire x, String text) {
        tape(x, bytes(text));
        return x.empire(text.length());
    }

    static int empires(SeaFire x, String text) {
        tape(x, bytes(text));
        return x.empires(text.length());
    }

    static SeaFire of(String text) {
        SeaFire x = new SeaFire();
        int hands = empire(x, text);
        if (x.status() != 0) {
            due("empire(" + text + ") with FAULT " + x.fault(0) + " at " + x.fault(1), hands, 0);
        }
        return x;
    }

    static SeaFire of(String text, String plan) {
        SeaFire x = of(text);
        int steps = empires(x, plan);
        if (x.status() != 0) {
            due("empires(" + plan + ") with FAULT " + x.fault(0) + " at " + x.fault(1), steps, 0);
        }
        return x;
    }

    static void fill(SeaFire x, int tray, int sort, long... numbers) {
        x.tray(tray, sort, numbers.length);
        for (int i = 0; i < numbers.length; i++) {
            x.write(tray, i, numbers[i]);
        }
    }

    static void end() {
        System.out.println(asked + " answers, " + wrong + " wrong");
        if (wrong != 0 || asked == 0) {
            System.exit(1);
        }
    }
}
