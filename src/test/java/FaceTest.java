import java.lang.reflect.Constructor;
import java.lang.reflect.Field;
import java.lang.reflect.Method;
import java.lang.reflect.Modifier;
import java.util.Arrays;
import java.util.Set;
import java.util.TreeSet;

/** The public face is the document's, with nothing more. */
public final class FaceTest {
    private static final String[] METHODS = {
        "int way(int,int,int)", "boolean dialect(int,int)", "int person(int)", "int paper(int,int,int,int,int)",
        "boolean withdraw(int,int)", "int grade(int,int,int)", "boolean bar(int,int,boolean)", "int rest(int)",
        "int hearing(int,int,int,int,int,int,int)", "boolean move(int,int,int)", "boolean cancel(int,int)",
        "int teams(int)", "int team(int,int,int)", "int plan(int,boolean)", "int planned(int)", "int seat(int,int)",
        "int turn(int,int)", "int journeys(int,int)", "int feed(int,int,int,int,int)", "int end(int)", "int fees()",
        "int tells(int,int)", "long fee(int,int)", "int ask(int,int,int)", "boolean answer(int,int,boolean,int)",
        "int known(int,int,int)", "int refusals(int,int)", "int count(int)",
    };

    public static void main(String[] args) {
        Class<?> face = HearingDesk.class;
        Due.is("modifiers", face.getModifiers(), Modifier.PUBLIC | Modifier.FINAL);
        Due.is("NONE", HearingDesk.NONE, -1);
        Set<String> open = new TreeSet<>();
        Set<String> hidden = new TreeSet<>();
        for (Method m : face.getDeclaredMethods()) {
            if (Modifier.isPrivate(m.getModifiers())) {
                hidden.add(m.getName());
            } else {
                open.add(told(m));
            }
        }
        Due.is("methods are the document's: " + open, open.equals(new TreeSet<>(Arrays.asList(METHODS))), true);
        for (String method : METHODS) {
            String name = method.substring(method.indexOf(' ') + 1, method.indexOf('('));
            Due.is("a private method is called " + name, hidden.contains(name), false);
        }
        for (Field f : face.getDeclaredFields()) {
            boolean isNone = f.getName().equals("NONE");
            Due.is("field " + f.getName() + " is private", Modifier.isPrivate(f.getModifiers()), !isNone);
            boolean isFinal = Modifier.isFinal(f.getModifiers()) || !Modifier.isStatic(f.getModifiers());
            Due.is("static field " + f.getName() + " is final", isFinal, true);
        }
        Constructor<?>[] makers = face.getDeclaredConstructors();
        Due.is("constructors", makers.length, 1);
        Due.is("constructor is public", Modifier.isPublic(makers[0].getModifiers()), true);
        Due.is("constructor's parameters", makers[0].getParameterCount(), 0);
        for (Class<?> inside : face.getDeclaredClasses()) {
            Due.is(inside + " is static", Modifier.isStatic(inside.getModifiers()), true);
            Due.is(inside + " is open", Modifier.isPublic(inside.getModifiers()), false);
        }
        Due.end();
    }

    private static String told(Method m) {
        StringBuilder line = new StringBuilder(m.getReturnType() + " " + m.getName() + "(");
        for (int i = 0; i < m.getParameterCount(); i++) {
            line.append(i == 0 ? "" : ",").append(m.getParameterTypes()[i]);
        }
        boolean isPlain = m.getModifiers() == Modifier.PUBLIC;
        return (isPlain ? "" : Modifier.toString(m.getModifiers()) + " ") + line.append(')');
    }
}
