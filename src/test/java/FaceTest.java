import java.lang.reflect.Constructor;
import java.lang.reflect.Field;
import java.lang.reflect.Method;
import java.lang.reflect.Modifier;
import java.util.Arrays;
import java.util.TreeSet;

/** The public face is the document's, and nothing more can be seen from outside. */
public final class FaceTest {
    private static final String[] METHODS = {
        "int row(int,int)", "int lay(int,int,int)", "int at(int,int)", "int tear(int)",
        "int copy(int,int,int,int,int)", "int mean(int)", "int text(int,int)", "int put(int,int,int)",
        "int fault(int)", "int shop(int)", "int regular(int,int)", "int mark(int,int)", "int other(int,int)",
        "int serve(int,int)", "int morning()", "int undo(int)", "int keep(int)", "int on(int)",
        "int who(int,int)", "int parts(int,int)", "int wants(int,int)", "int likely(int,int,int)",
        "int takes(int,int,int)", "int quickest(int,int)", "int queue(int)", "int by(int,int)", "int order(int)",
        "int learn(int)", "int fits(int)", "int kinds(int,int,int)", "int lies(int)", "int apart(int,int,int,int)",
        "int sour(int)", "int odds(int)", "int lots(int,int)", "int asked()", "long upper()", "long lower()",
        "int count(int)", "int finding()", "int findings(int)", "long digest()"};

    public static void main(String[] args) throws IllegalAccessException {
        Check.due("public and final", TheUsual.class.getModifiers(), Modifier.PUBLIC | Modifier.FINAL);
        constants();
        methods();
        Constructor<?>[] constructors = TheUsual.class.getDeclaredConstructors();
        Check.due("one constructor", constructors.length, 1);
        Check.due("without parameters", constructors[0].getParameterCount(), 0);
        Check.due("public", constructors[0].getModifiers(), Modifier.PUBLIC);
        Check.end();
    }

    private static void constants() throws IllegalAccessException {
        String[] names = {"BAD", "FULL", "FINDING", "STATE", "SPENT", "NONE"};
        int[] values = {-1, -2, -3, -4, -6, -9};
        int seen = 0;
        for (Field field : TheUsual.class.getDeclaredFields()) {
            if (Modifier.isPrivate(field.getModifiers())) {
                continue;
            }
            int place = Arrays.asList(names).indexOf(field.getName());
            Check.due(field.getName() + " is of the face", place >= 0 ? 1 : 0, 1);
            Check.due(field.getName() + " is public static final", field.getModifiers(),
                Modifier.PUBLIC | Modifier.STATIC | Modifier.FINAL);
            if (place >= 0 && field.getType() == int.class) {
                Check.due(field.getName(), field.getInt(null), values[place]);
                seen++;
            }
        }
        Check.due("constants", seen, names.length);
    }

    private static void methods() {
        TreeSet<String> due = new TreeSet<>(Arrays.asList(METHODS));
        TreeSet<String> names = new TreeSet<>();
        for (Method method : TheUsual.class.getDeclaredMethods()) {
            if (Modifier.isPrivate(method.getModifiers())) {
                continue;
            }
            StringBuilder face = new StringBuilder(method.getReturnType() + " " + method.getName() + "(");
            for (Class<?> type : method.getParameterTypes()) {
                face.append(face.charAt(face.length() - 1) == '(' ? "" : ",").append(type);
            }
            String told = face.append(")").toString();
            Check.due(told + " is of the face", due.remove(told) ? 1 : 0, 1);
            Check.due(told + " is public alone", method.getModifiers(), Modifier.PUBLIC);
            names.add(method.getName());
        }
        Check.due("methods that are missing: " + due, due.size(), 0);
        privateNames(TheUsual.class, names);
        for (Class<?> inside : TheUsual.class.getDeclaredClasses()) {
            privateNames(inside, names);
        }
    }

    private static void privateNames(Class<?> of, TreeSet<String> publicNames) {
        for (Method method : of.getDeclaredMethods()) {
            boolean hides = Modifier.isPrivate(method.getModifiers()) && publicNames.contains(method.getName());
            Check.due("private " + method.getName() + " bears a public name", hides ? 1 : 0, 0);
        }
    }
}
