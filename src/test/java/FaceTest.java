import java.lang.reflect.Constructor;
import java.lang.reflect.Field;
import java.lang.reflect.Method;
import java.lang.reflect.Modifier;
import java.util.Arrays;
import java.util.Set;
import java.util.TreeSet;

/** The class shows what the document's face has, and nothing else. */
public final class FaceTest {
    private static final String[] FACE = {
        "int feed(int,int,int,int,int)", "boolean end(int)", "int fault(int)", "int text(int)",
        "int shore(int,int)", "int goer(int,int)", "boolean law(int)", "boolean children(int)", "int hour()",
        "int tide(int)", "int stone(int)", "int sweep(int)", "int anew(int,int)", "int give(int)",
        "int years(int,long)", "int undo()", "int log(int,int)", "int step(int,int,int)", "int run(int,int)",
        "int perform(int)", "int where(int,int)", "int meet(int,int)", "int ends(int,int)", "int again(int)",
        "int way(int,int)", "int stones(int,int,int,int)", "int seen(int,int,int)", "int fits(int,int)",
        "int ask(int)", "int game(int,int,int,int,int)", "int rests(int,int,int)", "int odds(int,int,int,int)",
        "int shares(int,int)", "int ahead(int)", "int all(int)", "int image()", "int back()", "int count(int)"
    };

    public static void main(String[] args) {
        Checks checks = new Checks("FaceTest");
        checks.due("NONE", PrintsGoOn.NONE, -1);
        checks.due("HIDDEN", PrintsGoOn.HIDDEN, -1000000);
        checks.due("final", Modifier.isFinal(PrintsGoOn.class.getModifiers()), true);
        methods(checks);
        fields(checks);
        Constructor<?>[] constructors = PrintsGoOn.class.getDeclaredConstructors();
        checks.due("constructors", constructors.length, 1);
        checks.due("public constructor", Modifier.isPublic(constructors[0].getModifiers()), true);
        checks.due("its parameters", constructors[0].getParameterCount(), 0);
        checks.end();
    }

    private static void methods(Checks checks) {
        Set<String> due = new TreeSet<>(Arrays.asList(FACE));
        Set<String> names = new TreeSet<>();
        for (String face : FACE) {
            names.add(face.substring(face.indexOf(' ') + 1, face.indexOf('(')));
        }
        Set<String> got = new TreeSet<>();
        for (Method method : PrintsGoOn.class.getDeclaredMethods()) {
            if (Modifier.isPrivate(method.getModifiers())) {
                checks.due("private method " + method.getName(), names.contains(method.getName()), false);
            } else {
                got.add(told(method));
            }
        }
        checks.due("methods " + got, got.equals(due), true);
    }

    private static String told(Method method) {
        StringBuilder text = new StringBuilder(method.getReturnType().getName());
        text.append(' ').append(method.getName()).append('(');
        for (Class<?> type : method.getParameterTypes()) {
            text.append(text.charAt(text.length() - 1) == '(' ? "" : ",").append(type.getName());
        }
        return text.append(')').toString();
    }

    private static void fields(Checks checks) {
        for (Field field : PrintsGoOn.class.getDeclaredFields()) {
            boolean constant = field.getName().equals("NONE") || field.getName().equals("HIDDEN");
            checks.due("private field " + field.getName(), Modifier.isPrivate(field.getModifiers()), !constant);
        }
    }
}
