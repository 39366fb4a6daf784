import java.lang.reflect.Constructor;
import java.lang.reflect.Field;
import java.lang.reflect.Method;
import java.lang.reflect.Modifier;
import java.util.Arrays;
import java.util.TreeSet;

/** The public face is the document's and nothing more; a new object (promise 1). */
public final class FaceTest {
    private static final String[] FACE = {
        "public int TwoThirds.crowd(int)", "public int TwoThirds.of(int,int)", "public int TwoThirds.set(int,int)",
        "public int TwoThirds.steps(int,int)", "public int TwoThirds.holds(int)", "public int TwoThirds.round()",
        "public int TwoThirds.anew()", "public int TwoThirds.last(int)", "public int TwoThirds.target(int)",
        "public int TwoThirds.wins(int,int)", "public int TwoThirds.mean(int,int,int)",
        "public int TwoThirds.winners(int,int)", "public int TwoThirds.best(int)", "public int TwoThirds.level(int)",
        "public int TwoThirds.stepsOf(int)", "public int TwoThirds.shares(int,int)",
        "public int TwoThirds.words(int,int,int)", "public int TwoThirds.ahead(int,int,int)",
        "public long TwoThirds.worth(int,int)", "public int TwoThirds.jokers(int,int)",
        "public int TwoThirds.differ(int,int)", "public int TwoThirds.judge(int)", "public int TwoThirds.ends(int)",
        "public int TwoThirds.parts(int,int,int)", "public int TwoThirds.image()", "public int TwoThirds.restore()",
        "public int TwoThirds.count(int)", "public int TwoThirds.keep(int,int,int)",
        "public int TwoThirds.row(int,int,int)", "public int TwoThirds.put(int,int,int)",
        "public long TwoThirds.element(int,int) throws "
            + "java.lang.IllegalArgumentException,java.lang.IllegalStateException",
        "public int TwoThirds.copy(int,int,int,int,int)", "public int TwoThirds.depth(int)",
        "public int TwoThirds.toss(int)",
    };

    public static void main(String[] args) {
        face();
        newObject();
        Due.end("FaceTest");
    }

    private static void face() {
        TreeSet<String> due = new TreeSet<>(Arrays.asList(FACE));
        TreeSet<String> found = new TreeSet<>();
        TreeSet<String> publicNames = new TreeSet<>();
        TreeSet<String> privateNames = new TreeSet<>();
        for (Method method : TwoThirds.class.getDeclaredMethods()) {
            if (Modifier.isPrivate(method.getModifiers())) {
                privateNames.add(method.getName());
            } else {
                found.add(method.toGenericString());
                publicNames.add(method.getName());
            }
        }
        privateNames.retainAll(publicNames);
        Due.sameText("methods", found.toString(), due.toString());
        Due.sameText("private methods with a public one's name", privateNames.toString(), "[]");
        Constructor<?>[] constructors = TwoThirds.class.getDeclaredConstructors();
        Due.same("constructors", constructors.length, 1);
        Due.sameText("constructor", constructors[0].toGenericString(), "public TwoThirds()");
        for (Field field : TwoThirds.class.getDeclaredFields()) {
            Due.same(field.getName() + " is private", Modifier.isPrivate(field.getModifiers()) ? 1 : 0, 1);
        }
        Due.same("public final class", TwoThirds.class.getModifiers(), Modifier.PUBLIC | Modifier.FINAL);
    }

    private static void newObject() {
        TwoThirds x = new TwoThirds();
        Due.same("people", x.count(0), 0);
        Due.same("rounds", x.count(1), 0);
        Due.same("up", x.count(2), 2);
        Due.same("down", x.count(3), 3);
        Due.same("high", x.count(4), 100);
        Due.same("all steps", x.count(5), 0);
        Due.same("prize and what it was", x.set(3, 0), 0);
        Due.same("z and what it was", x.set(4, 1), 1);
        Due.same("of(0, 0)", x.of(0, 0), -1);
        Due.same("round()", x.round(), -3);
        Due.same("last(0)", x.last(0), -3);
        Due.same("target(0)", x.target(0), -3);
        Due.same("restore()", x.restore(), -3);
        for (int d = 0; d < 8; d++) {
            Due.same("put on an empty shelf", x.put(d, 0, 0), -11);
        }
        TwoThirds y = new TwoThirds();
        Due.crowd(x, "p0 0 0;", 1);
        Due.same("people of another object", y.count(0), 0);
    }
}
