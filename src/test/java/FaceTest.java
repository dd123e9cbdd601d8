import java.lang.reflect.Constructor;
import java.lang.reflect.Field;
import java.lang.reflect.Method;
import java.lang.reflect.Modifier;
import java.util.HashSet;
import java.util.Set;
import java.util.TreeSet;

/** The public face is that of the document, and nothing besides (LANGUAGE.md, rule 1). */
final class FaceTest {
    private static final String[] FACE = {
        "int feed(long,int)", "int recipe()", "int recipeTold(int,int)", "int make(int,int)",
        "int wild(int,int,int)", "int taskTold(int,int)", "int clauseTold(int,int,int)", "int solves(int,int)",
        "int answers(int,int,int)", "int answer(int,int)", "int nearest(int,int)", "int hint(int)",
        "int needed(int)", "int lean(int,int)", "long leans(int,int)", "long pairs(int,int)", "int balance(int)",
        "int find(int,int,int,int)", "int heap(int,int,int,int,int,int)", "int apart(int,int,int,int,int)",
        "int twin(int,int,int)", "int claim(int,int)", "int tries(int,int)", "int claimTold(int,int)",
        "int kindTold(int,int,int,int)", "int count(int)", "int image()", "int back()", "int sheet(int,int,int)",
        "int cell(int,int,int)", "int copy(int,int,int,int,int)", "int claims(int,int,int,int)",
        "int taken(int,int,int)"};

    private FaceTest() {
    }

    static void run() {
        Check.due("NONE", HiddenWorks.NONE, -1);
        Check.due("BAD", HiddenWorks.BAD, -2);
        Check.due("STATE", HiddenWorks.STATE, -3);
        Check.due("FULL", HiddenWorks.FULL, -4);
        Check.due("NO", HiddenWorks.NO, -4611686018427387904L);
        Set<String> due = new TreeSet<>(Set.of(FACE));
        Set<String> open = new TreeSet<>(), hidden = new TreeSet<>(), names = new TreeSet<>();
        for (Method m : HiddenWorks.class.getDeclaredMethods()) {
            if (Modifier.isPrivate(m.getModifiers())) {
                hidden.add(m.getName());
            } else {
                open.add(told(m));
                names.add(m.getName());
            }
        }
        Check.due("methods of the face", open.equals(due));
        for (Class<?> inside : HiddenWorks.class.getDeclaredClasses()) {
            Check.due(inside + " is static", Modifier.isStatic(inside.getModifiers()));
            Check.due(inside + " isn't open", !Modifier.isPublic(inside.getModifiers()));
            for (Method m : inside.getDeclaredMethods()) {
                hidden.add(m.getName());
            }
        }
        sizes();
        hidden.retainAll(names);
        Check.due("inner names that are public ones " + hidden, hidden.isEmpty());
        fields();
        Check.due("final", Modifier.isFinal(HiddenWorks.class.getModifiers()));
        Constructor<?>[] made = HiddenWorks.class.getDeclaredConstructors();
        Check.due("constructors", made.length, 1);
        Check.due("its arguments", made[0].getParameterCount(), 0);
        Check.due("it is public", Modifier.isPublic(made[0].getModifiers()));
    }

    /** How much there may be of each (LANGUAGE.md, rule 11). */
    private static void sizes() {
        Set<Class<?>> classes = new HashSet<>(Set.of(HiddenWorks.class.getDeclaredClasses()));
        classes.add(HiddenWorks.class);
        Check.due("classes", classes.size() <= 12);
        for (Class<?> one : classes) {
            int fields = 0;
            for (Field f : one.getDeclaredFields()) {
                fields += Modifier.isStatic(f.getModifiers()) ? 0 : 1;
            }
            Check.due("fields of " + one, fields <= 20);
            for (Method m : one.getDeclaredMethods()) {
                Check.due("parameters of " + m, m.getParameterCount() <= 7);
            }
        }
    }

    private static void fields() {
        Set<String> open = new TreeSet<>();
        for (Field f : HiddenWorks.class.getDeclaredFields()) {
            if (!Modifier.isPrivate(f.getModifiers())) {
                open.add(f.getName());
            }
            boolean fixed = !Modifier.isStatic(f.getModifiers()) || Modifier.isFinal(f.getModifiers());
            Check.due(f.getName() + " is no static state", fixed);
        }
        Check.due("open fields " + open, open.equals(Set.of("NONE", "BAD", "STATE", "FULL", "NO")));
    }

    private static String told(Method m) {
        StringBuilder line = new StringBuilder();
        line.append(m.getReturnType().getName()).append(' ').append(m.getName()).append('(');
        String between = "";
        for (Class<?> type : m.getParameterTypes()) {
            line.append(between).append(type.getName());
            between = ",";
        }
        return line.append(')').toString();
    }
}
