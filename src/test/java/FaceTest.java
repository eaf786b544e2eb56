import java.lang.reflect.Constructor;
import java.lang.reflect.Field;
import java.lang.reflect.Member;
import java.lang.reflect.Method;
import java.lang.reflect.Modifier;
import java.util.Arrays;
import java.util.HashSet;
import java.util.Set;
import java.util.TreeSet;

/** The public face is the document's, no more and no less (rule 1 of LANGUAGE.md). */
public final class FaceTest {
    private static final String FACE = "int status();long top();long bottom();boolean tray(int int int);"
            + "boolean write(int int long);long read(int int);boolean pour(int int int int int);"
            + "int feed(int int int int int);int empire(int);int empires(int);int fault(int);int many(int);"
            + "int part(int int);int hand(int int);int spring(int int);int copyKnown(int);int year(int);int make(int);"
            + "int use();int teach(int int int);boolean note(int boolean);int capture(int);int hire(int int);"
            + "boolean rule(int int);int supply(int boolean);boolean leak(int boolean);int knowers(int);"
            + "int knownBy(int);int sells(int);int loses(int);int fewest();int fewestSet();int bribe();int bribeSet();"
            + "int frail();int frailPart();int safe(int int);int lesson(int);int lostIn(int);int wholeFor();"
            + "int knownIn(int);int storeIn(int);int pace();int jarsFor(int);int dies(int);"
            + "boolean battle(int int int int);int throwFirst(int int int int);int jarsToWin(int int int int);"
            + "long tries(int);int worstLoss();int needed(int int);int sure(int int);int ask(int int);int live(int);"
            + "int lived(int);boolean mean(int int);int mark();int back()";

    public static void main(String[] args) {
        Bench.due("final", Modifier.isFinal(SeaFire.class.getModifiers()), true);
        Bench.due("NONE", SeaFire.NONE, -1);
        Set<String> publicNames = new HashSet<>();
        Set<String> face = new TreeSet<>();
        for (Method m : SeaFire.class.getDeclaredMethods()) {
            if (isSeen(m)) {
                face.add(told(m));
                publicNames.add(m.getName());
            }
        }
        Set<String> document = new TreeSet<>(Arrays.asList(FACE.split(";")));
        Bench.due("59 promises, the object among them", document.size(), 58);
        same("methods", face, document);
        for (Field f : SeaFire.class.getDeclaredFields()) {
            Bench.due("field " + f.getName(), isSeen(f), f.getName().equals("NONE"));
        }
        for (Constructor<?> c : SeaFire.class.getDeclaredConstructors()) {
            Bench.due("constructor", Modifier.isPublic(c.getModifiers()) && c.getParameterCount() == 0, true);
        }
        noOtherBearsAPublicName(SeaFire.class, publicNames);
        for (Class<?> inside : SeaFire.class.getDeclaredClasses()) {
            Bench.due(inside + " static", Modifier.isStatic(inside.getModifiers()), true);
            Bench.due(inside + " public", Modifier.isPublic(inside.getModifiers()), false);
            noOtherBearsAPublicName(inside, publicNames);
        }
        Bench.end();
    }

    private static boolean isSeen(Member m) {
        return !Modifier.isPrivate(m.getModifiers()) && !m.isSynthetic();
    }

    private static String told(Method m) {
        StringBuilder parameters = new StringBuilder();
        for (Class<?> c : m.getParameterTypes()) {
            parameters.append(parameters.length() == 0 ? "" : " ").append(c);
        }
        return m.getReturnType() + " " + m.getName() + "(" + parameters + ")";
    }

    private static void same(String what, Set<String> got, Set<String> want) {
        Set<String> more = new TreeSet<>(got);
        more.removeAll(want);
        Set<String> less = new TreeSet<>(want);
        less.removeAll(got);
        Bench.due(what + " too many " + more, more.size(), 0);
        Bench.due(what + " not there " + less, less.size(), 0);
    }

    private static void noOtherBearsAPublicName(Class<?> c, Set<String> names) {
        for (Method m : c.getDeclaredMethods()) {
            boolean own = c == SeaFire.class && isSeen(m);
            Bench.due(c + " " + m.getName(), !own && names.contains(m.getName()), false);
        }
    }
}
