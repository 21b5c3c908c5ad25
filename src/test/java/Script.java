import java.lang.reflect.InvocationTargetException;
import java.lang.reflect.Method;
import java.lang.reflect.Modifier;
import java.util.ArrayList;
import java.util.HashMap;
import java.util.List;
import java.util.Map;

/**
 * Runs of calls written as lines "call(1, 2) = 3" on a new object, for a sentence of the document.
 * The model of the document must give the same answers. A call that is to throw has index, argument
 * or state as its answer; of each of these it is found, too, that it changed nothing: the calls
 * before it are made on two more objects, the one that throws on one of them, and everything that
 * the two tell must be the same, then and once more behind some calls that show what is not told.
 */
final class Script {
    /** What the document promises of an object ends with this call. */
    static final int CALLS = 512;
    /** At most so many calls find out how many loans and locates there are. */
    private static final int COUNTING = 62;
    /** They show who may lend, how many recalls there are, and which are not met yet. */
    private static final String[] SHOWING = {"allow(0,false)", "allow(1,false)", "allow(2,false)", "allow(3,false)",
        "allow(4,false)", "allow(5,false)", "recall(3,3,1,1)", "locate(5,3,1)", "pass(1)", "pass(9)"};

    private static final Map<String, Method> PROGRAM = methods(Primeborrow.class);
    private static final Map<String, Method> MODEL = methods(Model.class);
    private static int wrong = 0;
    private static int asked = 0;

    private Script() {
    }

    private static Map<String, Method> methods(Class<?> type) {
        Map<String, Method> methods = new HashMap<>();
        for (Method method : type.getDeclaredMethods()) {
            if (!Modifier.isPrivate(method.getModifiers()) && !method.isSynthetic()) {
                methods.put(method.getName(), method);
            }
        }
        return methods;
    }

    /** A run for the sentence of a section of the document in which these words stand. */
    static void run(String section, String words, String... lines) {
        Document.name(section, words);
        String title = section + " (" + words + ")";
        Primeborrow object = new Primeborrow();
        Model model = new Model();
        List<String> before = new ArrayList<>();
        for (String line : lines) {
            int cut = line.lastIndexOf(" = ");
            if (cut < 0) {
                throw new IllegalArgumentException("no answer in the line: " + line);
            }
            String call = line.substring(0, cut);
            String due = line.substring(cut + 3).trim();
            expect(title + ": " + call, answer(object, call), due);
            expect(title + ": the model's " + call, answer(model, call), due);
            if (isThrown(due)) {
                expectNoChange(title, before, call);
            } else {
                before.add(call);
            }
        }
        if (lines.length > CALLS) {
            throw new IllegalArgumentException("more calls than an object is for: " + title);
        }
    }

    static void expect(String what, String answer, String due) {
        asked++;
        if (!answer.equals(due)) {
            wrong++;
            System.out.println(what + " answered " + answer + ", due is " + due);
        }
    }

    static void end() {
        System.out.println(asked + " answers, " + wrong + " wrong");
        if (wrong > 0) {
            System.exit(1);
        }
    }

    /** What the program or the model answers to a call. */
    static String answer(Object object, String call) {
        int open = call.indexOf('(');
        String[] words = call.substring(open + 1, call.indexOf(')')).split(",");
        Method method = (object instanceof Model ? MODEL : PROGRAM).get(call.substring(0, open));
        Class<?>[] types = method.getParameterTypes();
        Object[] values = new Object[types.length];
        for (int i = 0; i < types.length; i++) {
            String word = words[i].trim();
            values[i] = types[i] == boolean.class ? (Object) Boolean.valueOf(word) : (Object) Integer.valueOf(word);
        }
        try {
            return String.valueOf(method.invoke(object, values));
        } catch (InvocationTargetException thrown) {
            return nameOf(thrown.getCause());
        } catch (IllegalAccessException hidden) {
            throw new IllegalStateException(hidden);
        }
    }

    /** Only the very classes that the document names count, none below them. */
    private static String nameOf(Throwable thrown) {
        if (thrown.getClass() == IndexOutOfBoundsException.class) {
            return "index";
        }
        if (thrown.getClass() == IllegalArgumentException.class) {
            return "argument";
        }
        if (thrown.getClass() == IllegalStateException.class) {
            return "state";
        }
        return thrown.toString();
    }

    static boolean isThrown(String due) {
        return due.equals("index") || due.equals("argument") || due.equals("state");
    }

    /** A call behind others throws this, and the object is as it was before it. */
    static void expectThrown(String title, List<String> before, String call, String due) {
        expect(title + ": " + call, answer(made(before), call), due);
        expectNoChange(title, before, call);
    }

    static Primeborrow made(List<String> calls) {
        Primeborrow object = new Primeborrow();
        for (String call : calls) {
            answer(object, call);
        }
        return object;
    }

    private static void expectNoChange(String title, List<String> before, String call) {
        List<String> with = new ArrayList<>(before);
        with.add(call);
        expectAlike(title + ", behind " + call, told(made(with), with.size()), told(made(before), with.size()));
        expectAlike(title + ", some calls behind " + call, shown(with, with.size()), shown(before, with.size()));
    }

    private static String shown(List<String> before, int calls) {
        StringBuilder text = new StringBuilder();
        Primeborrow object = made(before);
        for (String call : SHOWING) {
            text.append(call).append(' ').append(answer(object, call)).append('\n');
        }
        return text.append(told(object, calls + SHOWING.length)).toString();
    }

    /** Both texts have the same lines; the first that is another is told. */
    static void expectAlike(String what, String answers, String dues) {
        String[] answered = answers.split("\n");
        String[] due = dues.split("\n");
        int at = 0;
        while (at < answered.length && at < due.length && answered[at].equals(due[at])) {
            at++;
        }
        expect(what, at < answered.length ? answered[at] : "", at < due.length ? due[at] : "");
    }

    /** Everything that an object tells behind so many calls, as far as there are calls left. */
    static String told(Primeborrow object, int calls) {
        StringBuilder text = new StringBuilder();
        int left = CALLS - calls - COUNTING;
        for (String call : askings(object)) {
            if (left-- <= 0) {
                break;
            }
            text.append(call).append(' ').append(answer(object, call)).append('\n');
        }
        return text.toString();
    }

    private static List<String> askings(Primeborrow object) {
        List<String> calls = new ArrayList<>();
        calls.add("day()");
        for (int what = 0; what < 5; what++) {
            calls.add("count(" + what + ")");
        }
        for (int client = 0; client < 6; client++) {
            for (int what = 0; what < 5; what++) {
                calls.add("clientOf(" + client + "," + what + ")");
            }
        }
        for (int stock = 0; stock < 4; stock++) {
            addOfStock(stock, calls);
        }
        for (int locate = 0; !answer(object, "locateOf(" + locate + ",0)").equals("index"); locate++) {
            for (int what = 0; what < 4; what++) {
                calls.add("locateOf(" + locate + "," + what + ")");
            }
        }
        long loans = object.count(0);
        for (long loan = loans - 1; loan >= 0; loan--) {
            for (int what = 0; what < 5; what++) {
                calls.add("loanOf(" + loan + "," + what + ")");
            }
        }
        return calls;
    }

    private static void addOfStock(int stock, List<String> calls) {
        for (int what = 0; what < 7; what++) {
            calls.add("stockOf(" + stock + "," + what + ")");
        }
        for (int client = 0; client < 6; client++) {
            calls.add("position(" + client + "," + stock + ")");
            calls.add("part(" + client + "," + stock + ")");
            calls.add("partAnew(" + client + "," + stock + ")");
        }
        for (int lender = 0; lender < 4; lender++) {
            for (int what = 0; what < 4; what++) {
                calls.add("lenderOf(" + lender + "," + stock + "," + what + ")");
            }
        }
    }
}
