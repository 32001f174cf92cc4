import java.lang.reflect.Constructor;
import java.lang.reflect.Field;
import java.lang.reflect.Method;
import java.lang.reflect.Modifier;
import java.util.TreeSet;

/** The face of the document, member by member, and nothing beside it. */
public final class FaceTest {
    private static final String INDEX = "java.lang.IndexOutOfBoundsException";
    private static final String ARGUMENT = "java.lang.IllegalArgumentException";
    private static final String UNSUPPORTED = "java.lang.UnsupportedOperationException";
    private static final String ELEMENT = "java.util.NoSuchElementException";

    public static void main(String[] args) {
        Check check = new Check("FaceTest");
        check.promise("the public face");
        check.yes("the class is public", Modifier.isPublic(GatedLinks.class.getModifiers()));
        check.yes("the class is final", Modifier.isFinal(GatedLinks.class.getModifiers()));
        check.is("NONE", -1, GatedLinks.NONE);
        check.same("members", due().toString(), found().toString());
        privateNames(check);
        check.end();
    }

    private static TreeSet<String> due() {
        TreeSet<String> due = new TreeSet<>();
        due.add("public static final int GatedLinks.NONE");
        due.add("public GatedLinks()");
        due.add(method("void", "delay(int,int)", INDEX, ARGUMENT));
        due.add(method("int", "stream(int,int,int,int,int,int)", INDEX, ARGUMENT, UNSUPPORTED));
        due.add(method("void", "clear()"));
        due.add(method("int", "build(int)", ARGUMENT));
        due.add(method("int", "tries()"));
        due.add(method("int", "offset(int)", ELEMENT, INDEX));
        due.add(method("int", "gate(int,int)", INDEX, ARGUMENT, ELEMENT));
        due.add(method("void", "activate()", ELEMENT));
        due.add(method("int", "tick(int)", ARGUMENT));
        due.add(method("void", "talk(int,boolean,int)", INDEX, ARGUMENT));
        due.add(method("boolean", "unblock(int)", INDEX));
        due.add(method("boolean", "cut(int,boolean)", INDEX));
        due.add(method("int", "babble(int,int)", INDEX, ARGUMENT, UNSUPPORTED));
        due.add(method("int", "told(int,int)", INDEX));
        due.add(method("int", "link(int,int)", INDEX));
        due.add(method("int", "streams(int)", INDEX));
        return due;
    }

    private static String method(String type, String call, String... thrown) {
        String text = "public " + type + " GatedLinks." + call;
        return thrown.length == 0 ? text : text + " throws " + String.join(",", thrown);
    }

    private static TreeSet<String> found() {
        TreeSet<String> found = new TreeSet<>();
        for (Field field : GatedLinks.class.getDeclaredFields()) {
            if (!Modifier.isPrivate(field.getModifiers())) {
                found.add(field.toString());
            }
        }
        for (Constructor<?> constructor : GatedLinks.class.getDeclaredConstructors()) {
            if (!Modifier.isPrivate(constructor.getModifiers())) {
                found.add(constructor.toString());
            }
        }
        for (Method method : GatedLinks.class.getDeclaredMethods()) {
            if (!Modifier.isPrivate(method.getModifiers())) {
                found.add(method.toString());
            }
        }
        return found;
    }

    /** Rule 1 of the language: no private method bears the name of a public one. */
    private static void privateNames(Check check) {
        TreeSet<String> open = new TreeSet<>();
        for (Method method : GatedLinks.class.getDeclaredMethods()) {
            if (Modifier.isPublic(method.getModifiers())) {
                open.add(method.getName());
            }
        }
        for (Method method : GatedLinks.class.getDeclaredMethods()) {
            if (Modifier.isPrivate(method.getModifiers())) {
                check.no("a private method is named " + method.getName(), open.contains(method.getName()));
            }
        }
    }
}
