import java.lang.reflect.Constructor;
import java.lang.reflect.Field;
import java.lang.reflect.Method;
import java.lang.reflect.Modifier;
import java.util.TreeSet;

/** The public face of the document, and nothing visible beside it (LANGUAGE.md, rule 1). */
public final class FaceTest {
    private static final String[] METHODS = {
        "crop int int int int", "sow int int", "buy int int", "hands int", "house int int", "away int int",
        "dislike int int boolean", "feed int long", "lines", "fault int", "warm int int", "week", "ahead int int",
        "image", "back", "told int int", "bed int int", "ripens int", "lot int int", "box int int", "why int int",
        "lead int int", "houseTold int int", "fair", "holds int int", "count int", "act int int int", "trace int",
        "sheet int int int", "cell int int int", "none int int", "forge int int int", "status",
    };

    public static void main(String[] args) {
        Check check = new Check("FaceTest");
        Class<?> face = GardenBoxes.class;
        check.same("public and final", face.getModifiers(), Modifier.PUBLIC | Modifier.FINAL);
        check.same("NONE", GardenBoxes.NONE, -1);
        TreeSet<String> due = new TreeSet<>();
        TreeSet<String> publicNames = new TreeSet<>();
        for (String method : METHODS) {
            due.add(method);
            publicNames.add(method.split(" ")[0]);
        }
        for (Method method : face.getDeclaredMethods()) {
            if (Modifier.isPrivate(method.getModifiers())) {
                check.same("private " + method.getName(), publicNames.contains(method.getName()) ? 1 : 0, 0);
                continue;
            }
            StringBuilder name = new StringBuilder(method.getName());
            for (Class<?> parameter : method.getParameterTypes()) {
                name.append(' ').append(parameter.getName());
            }
            check.same("method " + name, due.remove(name.toString()) ? 1 : 0, 1);
            check.same("public " + name, method.getModifiers(), Modifier.PUBLIC);
            check.same("int " + name, method.getReturnType() == int.class ? 1 : 0, 1);
        }
        check.same("methods that are not there: " + due, due.size(), 0);
        for (Field field : face.getDeclaredFields()) {
            boolean isNone = field.getName().equals("NONE");
            check.same("field " + field.getName(), Modifier.isPrivate(field.getModifiers()) ? 0 : 1, isNone ? 1 : 0);
        }
        Constructor<?>[] constructors = face.getDeclaredConstructors();
        check.same("one constructor", constructors.length, 1);
        check.same("a public one", constructors[0].getModifiers(), Modifier.PUBLIC);
        check.same("without parameters", constructors[0].getParameterCount(), 0);
        for (Class<?> inside : face.getDeclaredClasses()) {
            int modifiers = inside.getModifiers();
            boolean fits = Modifier.isStatic(modifiers) && !Modifier.isPublic(modifiers)
                && !Modifier.isProtected(modifiers);
            check.same("class inside " + inside.getName(), fits ? 1 : 0, 1);
            for (Method method : inside.getDeclaredMethods()) {
                check.same("inside " + method, publicNames.contains(method.getName()) ? 1 : 0, 0);
            }
        }
        check.finish();
    }
}
