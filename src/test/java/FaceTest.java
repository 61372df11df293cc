import java.lang.reflect.Constructor;
import java.lang.reflect.Field;
import java.lang.reflect.Method;
import java.lang.reflect.Modifier;
import java.util.Arrays;
import java.util.Set;
import java.util.TreeSet;

/** The face is that of the document, and nothing besides it. */
final class FaceTest {
    private static final String[] FACE = {
        "int put(int,int)", "int take(int,int)", "int token(int,int)", "int feed(int)", "int clear()",
        "int rule(int)", "int drop(int)", "int has(int,int)", "int spell(int)", "int line()",
        "int paper(int)", "int can(int)", "int bound(int,int)", "int bindings(int)", "int go(int)",
        "int all()", "int again(int,int)", "int last(int,int,int)", "int reach(int)",
        "int most(int,int)", "int dead(int)", "int ends(int)", "int stuck(int)",
        "int walk(int,int,int)", "int held(int,int,int)", "int change(int,int)", "int invariants()",
        "long weight(int,int,int)", "int sum(int,int)", "int told(int)", "int image()", "int undo()",
    };

    public static void main(String[] args) {
        Check check = new Check();
        check.about("the face");
        Set<String> methods = new TreeSet<>();
        Set<String> hidden = new TreeSet<>();
        for (Method method : TokenNet.class.getDeclaredMethods()) {
            if (Modifier.isPrivate(method.getModifiers())) {
                hidden.add(method.getName());
            } else {
                StringBuilder text = new StringBuilder();
                text.append(method.getReturnType()).append(' ').append(method.getName()).append('(');
                String comma = "";
                for (Class<?> type : method.getParameterTypes()) {
                    text.append(comma).append(type);
                    comma = ",";
                }
                methods.add(text.append(')').toString());
                check.due(text + " is public and not static", method.getModifiers(), Modifier.PUBLIC);
            }
        }
        check.due("methods", methods.toString(), new TreeSet<>(Arrays.asList(FACE)).toString());
        for (String call : FACE) {
            String name = call.substring(call.indexOf(' ') + 1, call.indexOf('('));
            if (hidden.contains(name)) {
                check.fail("a private method bears the name " + name);
            }
        }
        Set<String> fields = new TreeSet<>();
        for (Field field : TokenNet.class.getDeclaredFields()) {
            if (!Modifier.isPrivate(field.getModifiers())) {
                fields.add(field.getName());
            }
        }
        check.due("constants", fields.toString(), "[BAD, FULL, NO, NONE, STATE]");
        Constructor<?>[] constructors = TokenNet.class.getDeclaredConstructors();
        check.due("constructors", constructors.length, 1);
        check.due("its modifiers", constructors[0].getModifiers(), Modifier.PUBLIC);
        check.due("its parameters", constructors[0].getParameterCount(), 0);
        check.due("the class is public and final", TokenNet.class.getModifiers(), Modifier.PUBLIC | Modifier.FINAL);
        for (Class<?> inside : TokenNet.class.getDeclaredClasses()) {
            boolean shown = Modifier.isPublic(inside.getModifiers()) || Modifier.isProtected(inside.getModifiers());
            if (shown || !Modifier.isStatic(inside.getModifiers())) {
                check.fail(inside.getName() + " is not hidden and static");
            }
        }
        check.due("NONE", TokenNet.NONE, -1);
        check.due("BAD", TokenNet.BAD, -2);
        check.due("STATE", TokenNet.STATE, -3);
        check.due("FULL", TokenNet.FULL, -4);
        check.due("NO", TokenNet.NO, Long.MIN_VALUE);
        check.end();
    }
}
