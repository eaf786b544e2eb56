import java.nio.ByteBuffer;
import java.nio.charset.StandardCharsets;
import java.util.Arrays;

public final class Example {
    private static void tape(SeaFire fire, String text) {
        byte[] ascii = text.getBytes(StandardCharsets.US_ASCII);
        ByteBuffer bytes = ByteBuffer.wrap(Arrays.copyOf(ascii, (text.length() + 19) / 20 * 20));
        while (bytes.hasRemaining()) {
            fire.feed(bytes.getInt(), bytes.getInt(), bytes.getInt(), bytes.getInt(), bytes.getInt());
        }
    }

    private static void tell(String what, long answer) {
        System.out.println(what + ": " + answer);
    }

    public static void main(String[] args) {
        SeaFire fire = new SeaFire();
        String empire = "life 60; part pump fades 5; part heat ways 4 written;"
                + "hand ann age 50 price 8 knows pump heat; hand bob age 30 price 5;"
                + "spring east at 40 gives 6;";
        tape(fire, empire);
        tell("hands", fire.empire(empire.length()));
        tell("who can sell, as a set", fire.bribeSet());
        tell("for what price", fire.bribe());
        tell("years until pump is lost", fire.lostIn(0));
        tell("lesson by 1 (10 times the hand, and the part)", fire.lesson(1));
        tell("status: there is none", fire.status());
        tell("lesson by 0", fire.lesson(0));

        String empires = "teach ann bob pump; year 2; make 12; loop 3; use; year 1; end; any;";
        tape(fire, empires);
        tell("steps", fire.empires(empires.length()));
        tell("marks", fire.mark());
        tell("steps done", fire.live(7));
        tell("steps missed", fire.lived(0));
        tell("jars", fire.many(5));
        tell("what the enemy has, as a set", fire.many(11));
        tell("marks left", fire.back());
        tell("jars again", fire.many(5));

        fire.tray(0, 0, 3);
        fire.write(0, 0, 8);
        fire.write(0, 1, 8);
        fire.write(0, 2, 12);
        fire.battle(0, 3, 2, 1);
        tell("odds, above", fire.top());
        tell("odds, below", fire.bottom());
        tell("throw in the first turn", fire.throwFirst(0, 3, 2, 1));
        tell("throw in the first turn with one jar", fire.throwFirst(0, 3, 1, 1));

        String faulty = "life 60; part pump fades 0;";
        tape(fire, faulty);
        tell("a faulty empire", fire.empire(faulty.length()));
        tell("status: a fault", fire.status());
        tell("which", fire.fault(0));
        tell("where", fire.fault(1));
        tell("hands of the old one", fire.many(1));
    }
}
