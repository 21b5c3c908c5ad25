import java.lang.reflect.Constructor;
import java.lang.reflect.Field;
import java.lang.reflect.Method;
import java.lang.reflect.Modifier;
import java.util.ArrayList;
import java.util.Arrays;
import java.util.List;
import java.util.Set;
import java.util.TreeSet;

/** The class has the document's whole face, and no other member that is not private. */
public final class FaceTests {
    private static final String INDEX = "IndexOutOfBoundsException";
    private static final String ARGUMENT = "IllegalArgumentException";
    private static final String STATE = "IllegalStateException";
    private static final String[] FACE = {
        "int price(int,int) " + INDEX + " " + ARGUMENT,
        "int margin(int,int) " + INDEX + " " + ARGUMENT,
        "long cash(int,int) " + INDEX + " " + ARGUMENT + " " + STATE,
        "boolean allow(int,boolean) " + INDEX + " " + STATE,
        "int offer(int,int,int,int) " + INDEX + " " + ARGUMENT + " " + STATE,
        "long dividend(int,int) " + INDEX + " " + ARGUMENT,
        "int pass(int) " + ARGUMENT + " " + STATE,
        "long buy(int,int,int) " + INDEX + " " + ARGUMENT + " " + STATE,
        "long sell(int,int,int) " + INDEX + " " + ARGUMENT + " " + STATE,
        "int locate(int,int,int) " + INDEX + " " + ARGUMENT + " " + STATE,
        "long sellShort(int,int) " + INDEX + " " + ARGUMENT + " " + STATE,
        "int recall(int,int,int,int) " + INDEX + " " + ARGUMENT + " " + STATE,
        "int liquidate(int) " + INDEX + " " + STATE,
        "long fail(int) " + INDEX + " " + STATE,
        "int day()",
        "int position(int,int) " + INDEX,
        "int part(int,int) " + INDEX,
        "int partAnew(int,int) " + INDEX,
        "long clientOf(int,int) " + INDEX + " " + ARGUMENT,
        "long lenderOf(int,int,int) " + INDEX + " " + ARGUMENT,
        "int stockOf(int,int) " + INDEX + " " + ARGUMENT,
        "int loanOf(int,int) " + INDEX + " " + ARGUMENT,
        "int locateOf(int,int) " + INDEX + " " + ARGUMENT,
        "long count(int) " + ARGUMENT,
    };

    private FaceTests() {
    }

    public static void main(String[] args) {
        Class<?> type = Primeborrow.class;
        Script.expect("the class", Modifier.toString(type.getModifiers()), "public final");
        Set<String> open = new TreeSet<>();
        Set<String> names = new TreeSet<>();
        for (Method method : type.getDeclaredMethods()) {
            if (!Modifier.isPrivate(method.getModifiers())) {
                Script.expect(method.getName(), Modifier.toString(method.getModifiers()), "public");
                open.add(described(method));
                names.add(method.getName());
            }
        }
        Script.expect("the public methods", open.toString(), new TreeSet<>(Arrays.asList(FACE)).toString());
        for (Method method : type.getDeclaredMethods()) {
            if (Modifier.isPrivate(method.getModifiers())) {
                Script.expect(method + " bears a public name", String.valueOf(names.contains(method.getName())), "false");
            }
        }
        expectFields(type);
        List<String> makers = new ArrayList<>();
        for (Constructor<?> maker : type.getDeclaredConstructors()) {
            makers.add(maker.toString());
        }
        Script.expect("the constructors", makers.toString(), "[public Primeborrow()]");
        for (Class<?> inside : type.getDeclaredClasses()) {
            Script.expect(inside.getName(), Modifier.toString(inside.getModifiers()), "private static final");
        }
        Script.end();
    }

    private static void expectFields(Class<?> type) {
        for (Field field : type.getDeclaredFields()) {
            boolean constant = Modifier.isStatic(field.getModifiers());
            Script.expect("the fields", Modifier.isPrivate(field.getModifiers()) ? "private" : described(field),
                field.getName().equals("NONE") ? "public static final int NONE" : "private");
            Script.expect(field.getName() + " is static and not final",
                String.valueOf(constant && !Modifier.isFinal(field.getModifiers())), "false");
        }
    }

    private static String described(Field field) {
        return Modifier.toString(field.getModifiers()) + " " + field.getType() + " " + field.getName();
    }

    private static String described(Method method) {
        StringBuilder text = new StringBuilder();
        text.append(method.getReturnType().getSimpleName()).append(' ').append(method.getName()).append('(');
        for (int i = 0; i < method.getParameterCount(); i++) {
            text.append(i > 0 ? "," : "").append(method.getParameterTypes()[i].getSimpleName());
        }
        text.append(')');
        for (Class<?> thrown : method.getExceptionTypes()) {
            text.append(' ').append(thrown.getSimpleName());
        }
        return text.toString();
    }
}
