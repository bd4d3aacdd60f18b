import java.lang.reflect.Field;
import java.lang.reflect.Method;
import java.lang.reflect.Modifier;
import java.util.Set;
import java.util.TreeSet;

/** The public face, and the rules of LANGUAGE.md that reflection can see. */
public final class FaceTest {
    private static final String[] METHODS = {
        "int village(int,int,int)", "int of(int,int)", "int gap(int,int)", "int type(int)", "int valley()",
        "int count(int)", "int days(int)", "int set(int,int)", "int move(int,int)", "int tune(int,int)",
        "int storm(int)", "int undo()", "int seed(int)", "int ahead(int,int)", "int near(int)",
        "int meet(int,int)", "int together(int)", "int fix(int,int)", "long free(int,int)",
        "int hear(int,int,int,int)", "int again()", "int worst(int)", "int fog(int,int)", "int image()",
        "int restore()", "int heard(int,int,int,int,int,int)", "int film(int,int,int,int,int)",
        "int sheet(int,int,int)", "int drop(int)", "int item(int,int,int,long)", "int copy(int,int,int,int,int)"};
    private static final String[] CONSTANTS = {"BAD", "NOT", "FULL", "NONE", "NULL", "CAST", "INDEX", "SIZE"};

    public static void main(String[] args) {
        Due due = new Due();
        constants(due);
        methods(due);
        members(due);
        classesInside(due);
        due.end();
    }

    private static void constants(Due due) {
        due.is("BAD", NineNoons.BAD, -1);
        due.is("NOT", NineNoons.NOT, -2);
        due.is("FULL", NineNoons.FULL, -3);
        due.is("NONE", NineNoons.NONE, -4);
        due.is("NULL", NineNoons.NULL, -11);
        due.is("CAST", NineNoons.CAST, -12);
        due.is("INDEX", NineNoons.INDEX, -13);
        due.is("SIZE", NineNoons.SIZE, -14);
    }

    private static void methods(Due due) {
        Set<String> told = Set.of(METHODS);
        Set<String> there = new TreeSet<>();
        for (Method method : NineNoons.class.getDeclaredMethods()) {
            if (!Modifier.isPrivate(method.getModifiers())) {
                due.isTrue("public, not static: " + method,
                    Modifier.isPublic(method.getModifiers()) && !Modifier.isStatic(method.getModifiers()));
                there.add(described(method));
            }
        }
        due.isTrue("methods " + there, there.equals(told));
    }

    private static String described(Method method) {
        StringBuilder text = new StringBuilder(method.getReturnType() + " " + method.getName() + "(");
        for (Class<?> type : method.getParameterTypes()) {
            text.append(text.charAt(text.length() - 1) == '(' ? "" : ",").append(type);
        }
        return text.append(")").toString();
    }

    private static void members(Due due) {
        due.isTrue("public final", Modifier.isFinal(NineNoons.class.getModifiers())
            && Modifier.isPublic(NineNoons.class.getModifiers()));
        due.is("constructors", NineNoons.class.getDeclaredConstructors().length, 1);
        due.is("public constructors", NineNoons.class.getConstructors().length, 1);
        Set<String> constants = new TreeSet<>();
        for (Field field : NineNoons.class.getDeclaredFields()) {
            if (!Modifier.isPrivate(field.getModifiers())) {
                constants.add(field.getName());
            }
        }
        due.isTrue("constants " + constants, constants.equals(Set.of(CONSTANTS)));
    }

    private static void classesInside(Due due) {
        Set<String> face = new TreeSet<>();
        for (Method method : NineNoons.class.getMethods()) {
            face.add(method.getName());
        }
        due.isTrue("at most 12 classes", NineNoons.class.getDeclaredClasses().length < 12);
        checkClass(due, NineNoons.class, face);
        for (Class<?> inside : NineNoons.class.getDeclaredClasses()) {
            due.isTrue("static " + inside, Modifier.isStatic(inside.getModifiers())
                && !Modifier.isPublic(inside.getModifiers()) && !Modifier.isProtected(inside.getModifiers()));
            checkClass(due, inside, face);
        }
    }

    private static void checkClass(Due due, Class<?> type, Set<String> face) {
        for (Method method : type.getDeclaredMethods()) {
            due.isTrue("seven parameters " + method, method.getParameterCount() <= 7);
            boolean ofFace = type == NineNoons.class && Modifier.isPublic(method.getModifiers());
            due.isTrue("a name of its own " + method, ofFace || !face.contains(method.getName()));
        }
        for (Field field : type.getDeclaredFields()) {
            due.isTrue("static is final " + field,
                !Modifier.isStatic(field.getModifiers()) || Modifier.isFinal(field.getModifiers()));
        }
    }
}
