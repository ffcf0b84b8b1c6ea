import java.lang.reflect.Constructor;
import java.lang.reflect.Field;
import java.lang.reflect.Method;
import java.lang.reflect.Modifier;
import java.util.TreeSet;

/** The public face is the document's, and there is nothing else that can be seen from outside. */
public final class FaceTests {
    private static final String[] FACE = {
        "int sign(int)", "boolean end(int)", "int guests()", "int meetings()", "int rule()",
        "int guest(int,int)", "int pair(int,int)", "int sheet(int,int,int,int)", "int tells(int,int,int)",
        "int hides(int)", "int copies(int,int)", "int moves(int,int)", "int strict(int)", "int story()",
        "int undo()", "long orders()", "int first()", "int before(int,int)", "int met(int,int)",
        "int sure()", "int known()", "int place(int,int)", "int beds()", "int most()", "int evening(int)",
        "int longest(int)", "int cheapest()", "int dearest()", "int lies()", "int alone()", "int clash()",
        "int ring()", "int threes()", "int rooms()", "int circle()", "int hears(int,int)", "long asks()",
        "int likely(int)", "int game(int,int)", "int law()", "int rests(int)", "int years(int,int)",
        "boolean keep(int)", "boolean again(int)", "int count(int)", "long row(int)"};

    public static void main(String[] args) {
        TreeSet<String> due = new TreeSet<>(java.util.Arrays.asList(FACE));
        TreeSet<String> names = new TreeSet<>();
        for (String one : FACE) {
            names.add(one.substring(one.indexOf(' ') + 1, one.indexOf('(')));
        }
        TreeSet<String> found = new TreeSet<>();
        TreeSet<String> wrong = new TreeSet<>();
        for (Method method : InnRegister.class.getDeclaredMethods()) {
            if (Modifier.isPrivate(method.getModifiers())) {
                if (names.contains(method.getName())) {
                    wrong.add("private method " + method.getName());
                }
                continue;
            }
            StringBuilder text = new StringBuilder(method.getReturnType().getName() + " " + method.getName() + "(");
            for (int i = 0; i < method.getParameterCount(); i++) {
                text.append(i > 0 ? "," : "").append(method.getParameterTypes()[i].getName());
            }
            found.add(text.append(")").toString());
        }
        for (Class<?> inside : InnRegister.class.getDeclaredClasses()) {
            int kind = inside.getModifiers();
            if (!Modifier.isStatic(kind) || Modifier.isPublic(kind) || Modifier.isProtected(kind)) {
                wrong.add("class " + inside.getName());
            }
            for (Method method : inside.getDeclaredMethods()) {
                if (Modifier.isPrivate(method.getModifiers()) && names.contains(method.getName())) {
                    wrong.add("private method " + method.getName() + " of " + inside.getName());
                }
            }
        }
        if (!found.equals(due)) {
            TreeSet<String> more = new TreeSet<>(found);
            more.removeAll(due);
            due.removeAll(found);
            wrong.add("missing " + due + ", too many " + more);
        }
        for (Field field : InnRegister.class.getDeclaredFields()) {
            if (!Modifier.isPrivate(field.getModifiers()) && !field.getName().equals("NONE")) {
                wrong.add("field " + field.getName());
            }
        }
        for (Constructor<?> constructor : InnRegister.class.getDeclaredConstructors()) {
            if (!Modifier.isPublic(constructor.getModifiers()) || constructor.getParameterCount() > 0) {
                wrong.add("constructor " + constructor);
            }
        }
        if (!Modifier.isFinal(InnRegister.class.getModifiers()) || InnRegister.NONE != -1) {
            wrong.add("class not final, or NONE not -1");
        }
        System.out.println(wrong.isEmpty() ? "face: as due" : "face: " + wrong);
        if (!wrong.isEmpty()) {
            System.exit(1);
        }
    }
}
