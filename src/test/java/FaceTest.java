import java.lang.reflect.Constructor;
import java.lang.reflect.Field;
import java.lang.reflect.Method;
import java.lang.reflect.Modifier;
import java.util.ArrayList;
import java.util.Arrays;
import java.util.List;
import java.util.TreeSet;

/** The public face of the document, whole, and nothing beside it. */
public final class FaceTest {
    private static final String[] METHODS = {
        "int draft() S",
        "int addSlot(int,int,int) XAS",
        "int addRound(int,int) XAS",
        "void setTimes(int,int,int) XAS",
        "int send(int) XS",
        "int sign(int,int,int) XS",
        "int whyNot(int,int,int) X",
        "int decline(int,int,int) XS",
        "int cancel(int) XS",
        "int delegate(int,int,int,int,int) XA",
        "int revoke(int) XS",
        "int delegateToday(int) X",
        "int signedFor(int) X",
        "int toSign(int) X",
        "int pass(int) A",
        "int today() ",
        "int nextReminder(int) X",
        "int envelopes() ",
        "int state(int) X",
        "int slots(int) X",
        "int slotState(int,int) X",
        "int missing(int,int) X",
        "float share(int) X",
        "int ahead(int,int) X",
        "int roundOf(int,int) X",
        "int orders(int) X",
        "int ordersByAll(int) X",
        "int ordersLeft(int) X",
        "int events(int) X",
        "int kindOf(int,int) X",
        "int personOf(int,int) X",
        "int dayOf(int,int) X",
        "int seal(int,int) X",
        "int stateBehind(int,int) X",
        "int openBehind(int,int) X",
    };
    private static final String[] CONSTANTS = {
        "NONE -1",
        "DRAFT 0", "SENT 1", "COMPLETED 2", "DECLINED 3", "VOIDED 4", "EXPIRED 5",
        "WAITING 0", "OPEN 1", "SIGNED 2", "CLOSED 3",
        "SENDING 0", "SIGNING 1", "SIGNING_FOR 2", "DECLINING 3", "VOIDING 4", "EXPIRING 5", "REMINDER 6",
    };

    public static void main(String[] args) throws IllegalAccessException {
        Check.due("the class is public and final", Signround.class.getModifiers(), Modifier.PUBLIC | Modifier.FINAL);
        Check.due("the class above it", Signround.class.getSuperclass(), Object.class);
        Check.due("interfaces", Signround.class.getInterfaces().length, 0);
        Check.due("a package", Signround.class.getPackageName(), "");
        constructors();
        methods();
        constants();
        classesInside();
        Check.end();
    }

    private static void constructors() {
        Constructor<?>[] all = Signround.class.getDeclaredConstructors();
        Check.due("constructors", all.length, 1);
        Check.due("the constructor is public", all[0].getModifiers(), Modifier.PUBLIC);
        Check.due("parameters of the constructor", all[0].getParameterCount(), 0);
    }

    private static void methods() {
        List<String> seen = new ArrayList<>();
        TreeSet<String> faceNames = new TreeSet<>();
        for (Method m : Signround.class.getDeclaredMethods()) {
            if (!Modifier.isPrivate(m.getModifiers())) {
                Check.due(m + " is public alone", m.getModifiers(), Modifier.PUBLIC);
                seen.add(told(m));
                faceNames.add(m.getName());
            }
        }
        Check.due("methods", new TreeSet<>(seen), new TreeSet<>(Arrays.asList(METHODS)));
        Check.due("how many methods", seen.size(), METHODS.length);
        for (Method m : Signround.class.getDeclaredMethods()) {
            if (Modifier.isPrivate(m.getModifiers())) {
                Check.due("the private " + m + " has a public one's name", faceNames.contains(m.getName()), false);
            }
        }
    }

    private static String told(Method m) {
        StringBuilder text = new StringBuilder(m.getReturnType().getName()).append(' ').append(m.getName()).append('(');
        for (Class<?> p : m.getParameterTypes()) {
            text.append(text.charAt(text.length() - 1) == '(' ? "" : ",").append(p.getName());
        }
        text.append(") ");
        for (Class<?> e : m.getExceptionTypes()) {
            text.append(e == Check.INDEX ? 'X' : e == Check.ARGUMENT ? 'A' : e == Check.STATE ? 'S' : '?');
        }
        return text.toString();
    }

    private static void constants() throws IllegalAccessException {
        TreeSet<String> seen = new TreeSet<>();
        for (Field f : Signround.class.getDeclaredFields()) {
            if (Modifier.isPrivate(f.getModifiers())) {
                Check.due(f + " is final if it is static", staticAndOpen(f), false);
            } else {
                Check.due(f + " is a constant", f.getModifiers(), Modifier.PUBLIC | Modifier.STATIC | Modifier.FINAL);
                Check.due(f + " is an int", f.getType(), int.class);
                seen.add(f.getName() + " " + f.getInt(null));
            }
        }
        Check.due("constants", seen, new TreeSet<>(Arrays.asList(CONSTANTS)));
    }

    private static void classesInside() {
        for (Class<?> c : Signround.class.getDeclaredClasses()) {
            Check.due(c + " is static", Modifier.isStatic(c.getModifiers()), true);
            Check.due(c + " is public or protected", (c.getModifiers() & (Modifier.PUBLIC | Modifier.PROTECTED)) != 0, false);
            for (Field f : c.getDeclaredFields()) {
                Check.due(f + " is final if it is static", staticAndOpen(f), false);
            }
        }
    }

    private static boolean staticAndOpen(Field f) {
        return Modifier.isStatic(f.getModifiers()) && !Modifier.isFinal(f.getModifiers());
    }
}
