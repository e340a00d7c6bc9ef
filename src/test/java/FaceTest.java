import java.lang.reflect.Constructor;
import java.lang.reflect.Field;
import java.lang.reflect.Member;
import java.lang.reflect.Method;
import java.lang.reflect.Modifier;
import java.util.TreeSet;

/** The class has the document's face, and nothing else outside private. */
public final class FaceTest {
    private static final String[] METHODS = {
        "int card(int) IllegalArgumentException IllegalStateException",
        "int name(int,int,boolean) IndexOutOfBoundsException IllegalStateException",
        "int move(int) IndexOutOfBoundsException IllegalStateException",
        "int moveBack(int) IndexOutOfBoundsException IllegalStateException",
        "int setLimit(int,int) IndexOutOfBoundsException IllegalArgumentException",
        "int change(int) IllegalArgumentException IllegalStateException",
        "int need(int,int) IndexOutOfBoundsException IllegalArgumentException IllegalStateException",
        "boolean setBroken(int,boolean) IndexOutOfBoundsException IllegalStateException",
        "boolean setClash(int,int,boolean) IndexOutOfBoundsException IllegalArgumentException"
            + " IllegalStateException",
        "int mend(int) IndexOutOfBoundsException IllegalStateException",
        "int takeOut(int) IndexOutOfBoundsException IllegalStateException",
        "int merge(int) IllegalArgumentException IllegalStateException",
        "int queued()",
        "int queuedAt(int) IndexOutOfBoundsException",
        "int wouldPass(int) IllegalArgumentException IllegalStateException",
        "int wouldPassOneByOne(int) IllegalArgumentException IllegalStateException",
        "int wouldTake(int,boolean) IllegalArgumentException IllegalStateException",
        "int bestLength()",
        "int hours()",
        "int cards()",
        "int changes()",
        "int columnOf(int) IndexOutOfBoundsException",
        "int cardsIn(int) IndexOutOfBoundsException",
        "int cardAt(int,int) IndexOutOfBoundsException",
        "boolean canMove(int) IndexOutOfBoundsException",
        "int lacks(int) IndexOutOfBoundsException",
        "int falls(int) IndexOutOfBoundsException",
        "int pushes(int) IndexOutOfBoundsException",
        "int state(int) IndexOutOfBoundsException",
        "int namedBy(int) IndexOutOfBoundsException",
    };

    public static void main(String[] args) {
        Check check = new Check("FaceTest");
        check.rule("The public face, and nothing else that is open");
        check.equal("modifiers", Modifier.PUBLIC | Modifier.FINAL, Cardgate.class.getModifiers());
        TreeSet<String> due = new TreeSet<>(java.util.List.of(METHODS));
        TreeSet<String> got = new TreeSet<>();
        for (Method m : Cardgate.class.getDeclaredMethods()) {
            if (isOpen(m)) {
                got.add(describe(m));
            }
        }
        check.equal("methods", due.toString(), got.toString());
        TreeSet<String> fields = new TreeSet<>();
        for (Field f : Cardgate.class.getDeclaredFields()) {
            if (isOpen(f)) {
                fields.add(Modifier.toString(f.getModifiers()) + " " + f.getType() + " " + f.getName());
            }
        }
        check.equal("constants", "[public static final int IN, public static final int NONE, "
            + "public static final int OPEN, public static final int QUEUED, "
            + "public static final int REFUSED]", fields.toString());
        Constructor<?>[] constructors = Cardgate.class.getDeclaredConstructors();
        check.equal("constructors", 1, constructors.length);
        check.equal("constructor", "public Cardgate()", constructors[0].toString());
        check.terms("NONE = -1: There is none.");
        check.equal("NONE", -1, Cardgate.NONE);
        check.terms("OPEN = 0, QUEUED = 1, IN = 2, REFUSED = 3: States of changes.");
        check.equal("OPEN", 0, Cardgate.OPEN);
        check.equal("QUEUED", 1, Cardgate.QUEUED);
        check.equal("IN", 2, Cardgate.IN);
        check.equal("REFUSED", 3, Cardgate.REFUSED);
        check.end();
    }

    private static boolean isOpen(Member member) {
        return !Modifier.isPrivate(member.getModifiers()) && !member.isSynthetic();
    }

    private static String describe(Method m) {
        StringBuilder text = new StringBuilder();
        if (m.getModifiers() != Modifier.PUBLIC) {
            text.append(Modifier.toString(m.getModifiers())).append(' ');
        }
        text.append(m.getReturnType()).append(' ').append(m.getName()).append('(');
        for (int k = 0; k < m.getParameterCount(); k++) {
            text.append(k == 0 ? "" : ",").append(m.getParameterTypes()[k]);
        }
        text.append(')');
        for (Class<?> kind : m.getExceptionTypes()) {
            text.append(' ').append(kind.getSimpleName());
        }
        return text.toString();
    }
}
