import java.lang.reflect.Constructor;
import java.lang.reflect.Field;
import java.lang.reflect.Method;
import java.lang.reflect.Modifier;
import java.util.Arrays;
import java.util.Set;
import java.util.TreeSet;

/** The class shows the document's face and nothing else. */
public final class FaceTest {
    private static final Set<String> FACE = new TreeSet<>(Arrays.asList(
            "int NONE", "int CUT", "int REFUSED", "int RECOVERY",
            "TrialSlots(int, int)",
            "int key()",
            "int sign(int, int, int, int)",
            "boolean alter(int, int, int)",
            "int word(int, int)",
            "int fault(int)",
            "boolean cut(int)",
            "int update(int)",
            "int boot()",
            "int confirm()",
            "int running()",
            "boolean onTrial()",
            "int counter()",
            "int state(int)",
            "int home()",
            "int peek(int)",
            "boolean poke(int, int)",
            "int register()",
            "int log(int)",
            "int writes()"));

    private static int wrong = 0;

    private static void due(boolean holds, String what) {
        if (!holds) {
            wrong++;
            System.out.println(what);
        }
    }

    private static String types(Class<?>[] parameters) {
        StringBuilder text = new StringBuilder("(");
        for (Class<?> type : parameters) {
            text.append(text.length() == 1 ? "" : ", ").append(type.getSimpleName());
        }
        return text.append(")").toString();
    }

    private static Set<String> shownFields() {
        Set<String> shown = new TreeSet<>();
        for (Field field : TrialSlots.class.getDeclaredFields()) {
            int how = field.getModifiers();
            due(!Modifier.isStatic(how) || Modifier.isFinal(how), field.getName() + " is static and can be changed");
            if (!Modifier.isPrivate(how)) {
                due(Modifier.isPublic(how) && Modifier.isStatic(how), field.getName() + " is no public constant");
                shown.add(field.getType().getSimpleName() + " " + field.getName());
            }
        }
        return shown;
    }

    private static Set<String> shownMethods() {
        Set<String> shown = new TreeSet<>();
        Set<String> names = new TreeSet<>();
        for (Method method : TrialSlots.class.getDeclaredMethods()) {
            if (!Modifier.isPrivate(method.getModifiers())) {
                due(method.getModifiers() == Modifier.PUBLIC, method.getName() + " is not just public");
                names.add(method.getName());
                shown.add(method.getReturnType().getSimpleName() + " " + method.getName()
                        + types(method.getParameterTypes()));
            }
        }
        for (Method method : TrialSlots.class.getDeclaredMethods()) {
            due(!Modifier.isPrivate(method.getModifiers()) || !names.contains(method.getName()),
                    "a private method bears the public name " + method.getName());
        }
        return shown;
    }

    private static Set<String> shownConstructors() {
        Set<String> shown = new TreeSet<>();
        for (Constructor<?> constructor : TrialSlots.class.getDeclaredConstructors()) {
            due(constructor.getModifiers() == Modifier.PUBLIC, "a constructor is not public");
            shown.add("TrialSlots" + types(constructor.getParameterTypes()));
        }
        return shown;
    }

    public static void main(String[] args) {
        due(TrialSlots.class.getModifiers() == (Modifier.PUBLIC | Modifier.FINAL), "the class is not public and final");
        due(TrialSlots.class.getSuperclass() == Object.class, "the class has a parent");
        due(TrialSlots.class.getInterfaces().length == 0, "the class has an interface");
        Set<String> shown = new TreeSet<>();
        shown.addAll(shownFields());
        shown.addAll(shownConstructors());
        shown.addAll(shownMethods());
        due(shown.equals(FACE), "the face is " + shown + ", due is " + FACE);
        for (Class<?> inside : TrialSlots.class.getDeclaredClasses()) {
            due(Modifier.isStatic(inside.getModifiers()), inside.getSimpleName() + " is not static");
        }
        System.out.println(wrong == 0 ? "the face is as due" : wrong + " things are not as due");
        if (wrong != 0) {
            System.exit(1);
        }
    }
}
