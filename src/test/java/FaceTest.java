import java.lang.reflect.Constructor;
import java.lang.reflect.Field;
import java.lang.reflect.Method;
import java.lang.reflect.Modifier;
import java.util.Arrays;
import java.util.Set;
import java.util.TreeSet;

/** The public face of the document, and rules 1 and 5 of LANGUAGE.md. */
public final class FaceTest {
    private static final String INDEX = "IndexOutOfBoundsException";
    private static final String ARGUMENT = "IllegalArgumentException";
    private static final String STATE = "IllegalStateException";

    private static final Checks check = new Checks();

    public static void main(String[] args) {
        check.about("face");
        classIsPublicAndFinal();
        constructorStandsAlone();
        methodsAreTheDocuments();
        fieldsArePrivate();
        innerClassesAreHidden();
        check.end();
    }

    private static void classIsPublicAndFinal() {
        int modifiers = NameAuction.class.getModifiers();
        check.isTrue(Modifier.isPublic(modifiers) && Modifier.isFinal(modifiers), "public and final");
        check.isTrue(NameAuction.class.getSuperclass() == Object.class, "extends nothing");
        check.is(0, NameAuction.class.getInterfaces().length);
    }

    private static void constructorStandsAlone() {
        Constructor<?>[] constructors = NameAuction.class.getDeclaredConstructors();
        check.is(1, constructors.length);
        check.isTrue(Modifier.isPublic(constructors[0].getModifiers()), "public constructor");
        check.is(0, constructors[0].getParameterCount());
        check.is(0, constructors[0].getExceptionTypes().length);
    }

    private static void methodsAreTheDocuments() {
        Set<String> want = new TreeSet<>(Arrays.asList(
            told("int deposit(int,int)", INDEX, ARGUMENT),
            told("int funds(int)", INDEX),
            told("int bid(int,int,int)", INDEX, ARGUMENT, STATE),
            told("int bids(int)", INDEX),
            told("int renew(int,int)", INDEX, ARGUMENT, STATE),
            told("int redeem(int)", INDEX, STATE),
            told("int setRecord(int,int,int)", INDEX, ARGUMENT, STATE),
            told("int state(int)", INDEX),
            told("char sign(int,int)", INDEX),
            told("int owner(int)", INDEX),
            told("int next(int)", INDEX),
            told("int dispute(int,int)", INDEX, STATE),
            told("int decide(int,boolean)", INDEX, STATE),
            told("int pass(int)", ARGUMENT),
            told("int today()"),
            told("int takings()"),
            told("int lookUp(int,int)", INDEX),
            told("boolean isStale(int,int)", INDEX),
            told("int flush(int)", INDEX)));
        Set<String> got = new TreeSet<>();
        Set<String> publicNames = new TreeSet<>();
        for (Method m : NameAuction.class.getDeclaredMethods()) {
            if (!m.isSynthetic() && !Modifier.isPrivate(m.getModifiers())) {
                check.is(Modifier.PUBLIC, m.getModifiers());
                got.add(toldOf(m));
                publicNames.add(m.getName());
            }
        }
        check.isText(want.toString(), got.toString());
        for (Method m : NameAuction.class.getDeclaredMethods()) {
            boolean isPrivate = Modifier.isPrivate(m.getModifiers());
            check.isTrue(!isPrivate || !publicNames.contains(m.getName()), m.getName() + " is not private too");
        }
    }

    private static void fieldsArePrivate() {
        for (Field f : NameAuction.class.getDeclaredFields()) {
            int modifiers = f.getModifiers();
            check.isTrue(Modifier.isPrivate(modifiers), f.getName() + " is private");
            check.isTrue(!Modifier.isStatic(modifiers) || Modifier.isFinal(modifiers), f.getName() + " is final if static");
        }
    }

    private static void innerClassesAreHidden() {
        for (Class<?> c : NameAuction.class.getDeclaredClasses()) {
            int modifiers = c.getModifiers();
            check.isTrue(!Modifier.isPublic(modifiers) && !Modifier.isProtected(modifiers), c.getName() + " is hidden");
            check.isTrue(Modifier.isStatic(modifiers), c.getName() + " is static");
        }
    }

    private static String told(String signature, String... exceptions) {
        return signature + " throws " + new TreeSet<>(Arrays.asList(exceptions));
    }

    private static String toldOf(Method m) {
        StringBuilder text = new StringBuilder(m.getReturnType() + " " + m.getName() + "(");
        String comma = "";
        for (Class<?> type : m.getParameterTypes()) {
            text.append(comma).append(type);
            comma = ",";
        }
        Set<String> exceptions = new TreeSet<>();
        for (Class<?> type : m.getExceptionTypes()) {
            exceptions.add(type.getSimpleName());
        }
        return text.append(") throws ").append(exceptions).toString();
    }
}
