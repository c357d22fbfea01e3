import java.lang.reflect.Constructor;
import java.lang.reflect.Field;
import java.lang.reflect.Method;
import java.lang.reflect.Modifier;
import java.util.ArrayList;
import java.util.Arrays;
import java.util.HashSet;
import java.util.List;
import java.util.Set;

/** The face is the document's and nothing else (LANGUAGE.md, rules 1 and 5). */
public final class FaceTest {
    private static final String[] FACE = {
        "int write(int,long)", "int wipe()", "int fault()", "int lay()", "int reader(int,int)", "int kind(int)",
        "int hold(int,boolean)", "int seat(int,int,int,int)", "int does(int,int,int)", "int day(int,int)",
        "int sat(int,int)", "int bettered()", "int rest(int,int)", "int rests(int,int)", "int rounds(int,int)",
        "int often(int,int)", "int porter(int)", "int card(int)", "long booked(int,int,int,int)",
        "int over(int,int,int)", "int dare(int,int,int)", "int drawn(int,int)", "int ten(int,int)", "int keep()",
        "int back()", "int count(int)"};

    public static void main(String[] args) throws Exception {
        Check check = new Check();
        Class<?> face = CoatsOnChairs.class;
        check.due("BAD", CoatsOnChairs.BAD, -1);
        check.due("NO", CoatsOnChairs.NO, -2);
        check.due("FULL", CoatsOnChairs.FULL, -3);
        check.due("NONE", CoatsOnChairs.NONE, -4);
        check.due("public final", face.getModifiers(), Modifier.PUBLIC | Modifier.FINAL);

        Set<String> found = new HashSet<>();
        Set<String> publicNames = new HashSet<>();
        for (Method m : face.getDeclaredMethods()) {
            if (!Modifier.isPrivate(m.getModifiers())) {
                found.add(signature(m));
                publicNames.add(m.getName());
                check.due("modifiers of " + m, m.getModifiers(), Modifier.PUBLIC);
            }
        }
        check.due("the methods " + found, found.equals(new HashSet<>(Arrays.asList(FACE))) ? 1 : 0, 1);

        List<Class<?>> all = new ArrayList<>(Arrays.asList(face.getDeclaredClasses()));
        all.add(face);
        check.due("classes: twelve at most", all.size() <= 12 ? 1 : 0, 1);
        for (Class<?> c : all) {
            lookInto(check, c, publicNames);
        }
        for (Constructor<?> c : face.getDeclaredConstructors()) {
            check.due("constructor " + c, c.getParameterCount() == 0 && Modifier.isPublic(c.getModifiers()) ? 1 : 0, 1);
        }
        check.end();
    }

    private static void lookInto(Check check, Class<?> c, Set<String> publicNames) {
        int own = 0;
        for (Field f : c.getDeclaredFields()) {
            boolean isStatic = Modifier.isStatic(f.getModifiers());
            own += isStatic ? 0 : 1;
            check.due("static is final: " + f, !isStatic || Modifier.isFinal(f.getModifiers()) ? 1 : 0, 1);
            if (c == CoatsOnChairs.class) {
                boolean told = Arrays.asList("BAD", "NO", "FULL", "NONE").contains(f.getName());
                check.due("seen: " + f, Modifier.isPublic(f.getModifiers()) == told ? 1 : 0, 1);
                check.due("hidden: " + f, told || Modifier.isPrivate(f.getModifiers()) ? 1 : 0, 1);
                check.due("an int for all: " + f, told && (!isStatic || f.getType() != int.class) ? 1 : 0, 0);
            }
        }
        check.due("fields of " + c, own <= 20 ? 1 : 0, 1);
        for (Method m : c.getDeclaredMethods()) {
            boolean again = c != CoatsOnChairs.class || Modifier.isPrivate(m.getModifiers());
            check.due("name of its own: " + m, again && publicNames.contains(m.getName()) ? 1 : 0, 0);
            check.due("seven parameters at most: " + m, m.getParameterCount() <= 7 ? 1 : 0, 1);
        }
        if (c != CoatsOnChairs.class) {
            check.due("static: " + c, Modifier.isStatic(c.getModifiers()) ? 1 : 0, 1);
            check.due("not public: " + c, Modifier.isPublic(c.getModifiers()) || Modifier.isProtected(c.getModifiers()) ? 1 : 0, 0);
        }
    }

    private static String signature(Method m) {
        List<String> types = new ArrayList<>();
        for (Class<?> type : m.getParameterTypes()) {
            types.add(type.getName());
        }
        return m.getReturnType().getName() + " " + m.getName() + "(" + String.join(",", types) + ")";
    }
}
