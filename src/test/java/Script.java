import java.lang.reflect.InvocationTargetException;
import java.lang.reflect.Method;
import java.util.ArrayList;
import java.util.HashMap;
import java.util.List;
import java.util.Map;

/**
 * Runs of calls written as lines "call(1, 2) = 3" on a new object. A call that is to throw has
 * index, argument or state as its answer; of each of these it is found, too, that it changed
 * nothing: the calls before it are made on two more objects, the one that throws on one of them,
 * and everything that the two tell must be the same.
 */
final class Script {
    /** What the document promises of an object ends with this call. */
    static final int CALLS = 512;
    /** At most so many calls find out how many loans and locates there are. */
    private static final int COUNTING = 62;

    private static final Map<String, Method> METHODS = new HashMap<>();
    private static int wrong = 0;
    private static int asked = 0;

    static {
        for (Method method : Primeborrow.class.getDeclaredMethods()) {
            METHODS.put(method.getName(), method);
        }
    }

    private Script() {
    }

    static void run(String title, String... lines) {
        Primeborrow object = new Primeborrow();
        List<String> before = new ArrayList<>();
        for (String line : lines) {
            int cut = line.lastIndexOf(" = ");
            if (cut < 0) {
                throw new IllegalArgumentException("no answer in the line: " + line);
            }
            String call = line.substring(0, cut);
            String due = line.substring(cut + 3).trim();
            String answer = answer(object, call);
            expect(title + ": " + call, answer, due);
            if (isThrown(due)) {
                expectNoChange(title, before, call);
            } else {
                before.add(call);
            }
        }
    }

    static void expect(String what, String answer, String due) {
        asked++;
        if (!answer.equals(due)) {
            wrong++;
            System.out.println(what + " answered " + answer + ", due is " + due);
        }
    }

    static void end() {
        System.out.println(asked + " answers, " + wrong + " wrong");
        if (wrong > 0) {
            System.exit(1);
        }
    }

    static String answer(Primeborrow object, String call) {
        int open = call.indexOf('(');
        String[] words = call.substring(open + 1, call.indexOf(')')).split(",");
        Method method = METHODS.get(call.substring(0, open));
        Class<?>[] types = method.getParameterTypes();
        Object[] values = new Object[types.length];
        for (int i = 0; i < types.length; i++) {
            String word = words[i].trim();
            values[i] = types[i] == boolean.class ? (Object) Boolean.valueOf(word) : (Object) Integer.valueOf(word);
        }
        try {
            return String.valueOf(method.invoke(object, values));
        } catch (InvocationTargetException thrown) {
            return nameOf(thrown.getCause());
        } catch (IllegalAccessException hidden) {
            throw new IllegalStateException(hidden);
        }
    }

    /** Only the very classes that the document names count, none below them. */
    static String nameOf(Throwable thrown) {
        if (thrown.getClass() == IndexOutOfBoundsException.class) {
            return "index";
        }
        if (thrown.getClass() == IllegalArgumentException.class) {
            return "argument";
        }
        if (thrown.getClass() == IllegalStateException.class) {
            return "state";
        }
        return thrown.toString();
    }

    private static boolean isThrown(String due) {
        return due.equals("index") || due.equals("argument") || due.equals("state");
    }

    private static void expectNoChange(String title, List<String> before, String call) {
        Primeborrow without = new Primeborrow();
        Primeborrow with = new Primeborrow();
        for (String earlier : before) {
            answer(without, earlier);
            answer(with, earlier);
        }
        answer(with, call);
        int room = CALLS - before.size() - 1 - COUNTING;
        expect(title + ": what is told behind " + call, told(with, room), told(without, room));
    }

    /** Everything that an object tells, by at most so many calls. */
    static String told(Primeborrow object, int room) {
        StringBuilder text = new StringBuilder();
        int left = room;
        for (String call : askings(object)) {
            if (left-- <= 0) {
                break;
            }
            text.append(call).append(' ').append(answer(object, call)).append('\n');
        }
        return text.toString();
    }

    private static List<String> askings(Primeborrow object) {
        List<String> calls = new ArrayList<>();
        calls.add("day()");
        for (int c = 0; c < 5; c++) {
            calls.add("count(" + c + ")");
        }
        for (int stock = 0; stock < 4; stock++) {
            for (int what = 0; what < 7; what++) {
                calls.add("stockOf(" + stock + "," + what + ")");
            }
            for (int client = 0; client < 6; client++) {
                calls.add("position(" + client + "," + stock + ")");
                calls.add("part(" + client + "," + stock + ")");
                calls.add("partAnew(" + client + "," + stock + ")");
            }
            for (int lender = 0; lender < 4; lender++) {
                for (int what = 0; what < 4; what++) {
                    calls.add("lenderOf(" + lender + "," + stock + "," + what + ")");
                }
            }
        }
        for (int client = 0; client < 6; client++) {
            for (int what = 0; what < 5; what++) {
                calls.add("clientOf(" + client + "," + what + ")");
            }
        }
        for (int locate = 0; !answer(object, "locateOf(" + locate + ",0)").equals("index"); locate++) {
            for (int what = 0; what < 4; what++) {
                calls.add("locateOf(" + locate + "," + what + ")");
            }
        }
        long loans = object.count(0);
        for (int loan = 0; loan < loans; loan++) {
            for (int what = 0; what < 5; what++) {
                calls.add("loanOf(" + loan + "," + what + ")");
            }
        }
        return calls;
    }
}
