import java.lang.reflect.Constructor;
import java.lang.reflect.Field;
import java.lang.reflect.Method;
import java.lang.reflect.Modifier;
import java.util.Arrays;
import java.util.TreeSet;

/** The public face: these constants, this constructor, these methods, and nothing else that can be reached. */
public final class FaceTest {
    private static final Due due = new Due("FaceTest");
    private static final String[] METHODS = {
        "int row(int,int)", "int lay(int,int,int)", "int at(int,int)", "int tear(int)",
        "int copy(int,int,int,int,int)", "int mean(int)", "int text(int,int)", "int put(int,int,int)",
        "int fault(int)", "int train(int)", "int wagon(int,int)", "int mark(int,int)", "int engine(int)",
        "int go(int)", "int undo(int)", "int keep(int)", "int on(int)", "int grip()", "int load(int)",
        "int steam()", "int would(int)", "int worst()", "int run(int)", "int shortest(int,int)", "int ways(int)",
        "int stay(int)", "int bad()", "int odds(int,int,int)", "int weights(int)", "int lies(int,int)",
        "int trial(int,int)", "int lots(int,int)", "int asked()", "long upper()", "long lower()", "int count(int)",
        "int finding()", "int findings(int)", "long digest()"
    };

    public static void main(String[] args) throws IllegalAccessException {
        due.is("BAD", WheelsSlip.BAD, -1);
        due.is("FULL", WheelsSlip.FULL, -2);
        due.is("FINDING", WheelsSlip.FINDING, -3);
        due.is("STATE", WheelsSlip.STATE, -4);
        due.is("SPENT", WheelsSlip.SPENT, -6);
        due.is("NONE", WheelsSlip.NONE, -9);
        due.holds("public final class", WheelsSlip.class.getModifiers() == (Modifier.PUBLIC | Modifier.FINAL));
        TreeSet<String> wanted = new TreeSet<>(Arrays.asList(METHODS));
        TreeSet<String> reached = new TreeSet<>();
        TreeSet<String> names = new TreeSet<>();
        for (String face : METHODS) {
            names.add(face.substring(face.indexOf(' ') + 1, face.indexOf('(')));
        }
        for (Method method : WheelsSlip.class.getDeclaredMethods()) {
            if (!Modifier.isPrivate(method.getModifiers())) {
                reached.add(signature(method));
            } else if (names.contains(method.getName())) {
                due.holds("no private method is named " + method.getName(), false);
            }
        }
        due.holds("methods " + reached, reached.equals(wanted));
        fields();
        Constructor<?>[] made = WheelsSlip.class.getDeclaredConstructors();
        due.is("constructors", made.length, 1);
        due.holds("WheelsSlip()", made[0].getParameterCount() == 0 && Modifier.isPublic(made[0].getModifiers()));
        nested(names);
        due.end();
    }

    private static String signature(Method method) {
        StringBuilder text = new StringBuilder();
        text.append(method.getReturnType().getName()).append(' ').append(method.getName()).append('(');
        for (int i = 0; i < method.getParameterCount(); i++) {
            text.append(i == 0 ? "" : ",").append(method.getParameterTypes()[i].getName());
        }
        return text.append(')').toString();
    }

    private static void fields() {
        TreeSet<String> reached = new TreeSet<>();
        for (Field field : WheelsSlip.class.getDeclaredFields()) {
            if (!Modifier.isPrivate(field.getModifiers())) {
                reached.add(field.getName());
            }
            if (Modifier.isStatic(field.getModifiers())) {
                due.holds("final: " + field.getName(), Modifier.isFinal(field.getModifiers()));
            }
        }
        due.is("constants " + reached, reached.size(), 6);
    }

    private static void fewFields(Class<?> made) {
        int many = 0;
        for (Field field : made.getDeclaredFields()) {
            many += Modifier.isStatic(field.getModifiers()) ? 0 : 1;
        }
        due.holds("twenty fields at most: " + made, many <= 20);
    }

    private static void nested(TreeSet<String> names) {
        due.holds("twelve classes at most", WheelsSlip.class.getDeclaredClasses().length < 12);
        fewFields(WheelsSlip.class);
        for (Class<?> inside : WheelsSlip.class.getDeclaredClasses()) {
            int modifiers = inside.getModifiers();
            fewFields(inside);
            due.holds("static: " + inside, Modifier.isStatic(modifiers) && !Modifier.isPublic(modifiers));
            for (Method method : inside.getDeclaredMethods()) {
                due.holds("none bears a public name: " + method, !names.contains(method.getName()));
            }
        }
    }
}
