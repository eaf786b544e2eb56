import java.util.Arrays;

/** Texts cut at each byte, and with each byte put otherwise: FAULTS must agree with the Model's. */
public final class SpoiltTextsTest {
    private static final String FULL = "life 10;border 0;jars 9999;part a fades 1 ways 1;part bb fades 99 ways 9 written;part abcdefgh;"
            + "part d written;part e;part f;hand g age 0 price 0 knows;hand h age 99 price 99 knows a bb abcdefgh d e f;"
            + "spring s at 0 gives 0;spring t at 999 gives 99;";
    private static final String PLAN = "year 20;make 999;use;teach ann bob pump;write heat;burn heat;capture dot;any;when known juice;"
            + "when whole;when jars<10;stop;end;end;end;loop 99;loop 1;use;end;end;when jars = 9999;end;";
    // The ends of each sort of byte, the first ones beyond them, and letters that make other words.
    private static final int[] BYTES = {0, 9, 10, 11, 31, 32, 33, 47, '0', '1', '5', '9', 58, ';', '<', '=', '>', 63, '@', 'A', 96, 'a', 'e', 'h',
        's', 'z', 123, 127, 128, 255};

    public static void main(String[] args) {
        cuts(Bench.bytes(FULL), false);
        cuts(Bench.bytes(Bench.CITY), false);
        cuts(Bench.bytes(PLAN), true);
        changes(Bench.bytes(FULL), false);
        changes(Bench.bytes(PLAN), true);
        losses(Bench.bytes(FULL), false);
        losses(Bench.bytes(PLAN), true);
        Bench.end();
    }

    private static void feedModel(Model model, byte[] text) {
        byte[] bytes = Arrays.copyOf(text, (text.length + 19) / 20 * 20);
        for (int i = 0; i < bytes.length; i += 20) {
            model.feed(Bench.four(bytes, i), Bench.four(bytes, i + 4), Bench.four(bytes, i + 8), Bench.four(bytes, i + 12), Bench.four(bytes, i + 16));
        }
    }

    private static long asked(Model model, int n, boolean plan) {
        try {
            return plan ? model.empires(n) : model.empire(n);
        } catch (Model.Refusal e) {
            return SeaFire.NONE;
        }
    }

    private static void agrees(byte[] text, int n, boolean plan) {
        SeaFire own = new SeaFire();
        Model model = new Model();
        if (plan) {
            Bench.empire(own, Bench.CITY);
            feedModel(model, Bench.bytes(Bench.CITY));
            model.empire(Bench.CITY.length());
        }
        Bench.tape(own, text);
        feedModel(model, text);
        String told = new String(text, 0, n, java.nio.charset.StandardCharsets.ISO_8859_1);
        Bench.due(told, plan ? own.empires(n) : own.empire(n), asked(model, n, plan));
        Bench.due("fault(0) of " + told, own.fault(0), model.fault(0));
        Bench.due("fault(1) of " + told, own.fault(1), model.fault(1));
    }

    private static void cuts(byte[] text, boolean plan) {
        for (int n = 0; n <= text.length; n++) {
            agrees(text, n, plan);
        }
    }

    private static void changes(byte[] text, boolean plan) {
        for (int at = 0; at < text.length; at++) {
            for (int b : BYTES) {
                byte[] changed = text.clone();
                changed[at] = (byte) b;
                agrees(changed, changed.length, plan);
            }
        }
    }

    private static void losses(byte[] text, boolean plan) {
        for (int at = 0; at < text.length; at++) {
            for (int many = 1; many <= 4 && at + many <= text.length; many++) {
                byte[] left = new byte[text.length - many];
                System.arraycopy(text, 0, left, 0, at);
                System.arraycopy(text, at + many, left, at, left.length - at);
                agrees(left, left.length, plan);
            }
        }
    }
}
