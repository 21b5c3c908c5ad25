import java.util.HashMap;
import java.util.Map;

/** Long runs of calls, drawn by a generator of its own, answered alike by the program and by the model. */
public final class ModelTests {
    private static final int RUNS = 200;
    private static final int CALLS_OF_MANY = 144;
    private static final String[] TELLS = {"price", "margin", "cash", "allow", "offer", "dividend", "pass", "buy", "sell",
        "locate", "sellShort", "recall", "liquidate", "fail"};
    private static final String[] ASKS = {"day", "position", "part", "partAnew", "clientOf", "lenderOf", "stockOf",
        "loanOf", "locateOf", "count"};
    /** How often each of TELLS is drawn, of the sum of them all, by the kind of the run. */
    private static final int[][] WEIGHTS = {
        {4, 2, 6, 6, 8, 4, 6, 14, 14, 12, 14, 6, 4, 1},
        {1, 1, 2, 3, 10, 1, 12, 10, 10, 20, 20, 12, 1, 1},
        {10, 4, 8, 4, 6, 4, 6, 14, 10, 10, 10, 3, 12, 1},
        {1, 1, 1, 2, 3, 1, 1, 30, 30, 20, 20, 1, 0, 0},
        {2, 1, 2, 6, 1, 2, 5, 16, 20, 16, 20, 4, 3, 0},
    };
    /** The kind in which two clients hand one box of many small loans to and fro. */
    private static final int HANDED = 3;

    private final long seed;
    private long state;
    private final int kind;
    private final int stocks;
    private final int size;
    private final Primeborrow program = new Primeborrow();
    private final Model model = new Model();
    private final StringBuilder past = new StringBuilder();
    private static final Map<String, Integer> REACHED = new HashMap<>();

    private ModelTests(long seed) {
        this.seed = seed;
        this.state = seed * 0x9E3779B97F4A7C15L + 1;
        this.kind = (int) (seed % WEIGHTS.length);
        this.stocks = draw(3) == 0 ? 4 : 1 + draw(2);
        this.size = new int[] {3, 12, 60, 500}[draw(4)];
    }

    public static void main(String[] args) {
        int runs = args.length > 0 ? Integer.parseInt(args[0]) : RUNS;
        int first = args.length > 1 ? Integer.parseInt(args[1]) : 1;
        for (int seed = first; seed < first + runs; seed++) {
            if (!new ModelTests(seed).run()) {
                System.exit(1);
            }
        }
        System.out.println(runs + " runs alike; reached " + new java.util.TreeMap<>(REACHED));
    }

    private int draw(int below) {
        state = state * 6364136223846793005L + 1442695040888963407L;
        return (int) ((state >>> 33) % below);
    }

    private boolean run() {
        boolean alike = kind != HANDED || manyLoans();
        int calls = kind == HANDED ? CALLS_OF_MANY : 0;
        for (; calls < Script.CALLS - 40 && alike; calls++) {
            alike = draw(kind == HANDED ? 8 : 3) == 0 ? ask() : tell();
        }
        for (int client = 0; client < 6 && alike; client++) {
            alike = both("clientOf", client, 0) && both("partAnew", client, 0) && both("part", client, 0)
                && both("position", client, 0);
        }
        for (int what = 0; what < 5 && alike; what++) {
            alike = both("count", what);
        }
        note("replaced", model.replaced > 0);
        note("bought in", model.count(2) > 0);
        note("lost", model.count(3) > 0);
        note("met", model.count(4) > 0);
        note("all loans", model.count(0) == 1000);
        return alike;
    }

    /** Some 900 loans, by sales of shares that are lent in loans of a few shares each. */
    private boolean manyLoans() {
        boolean alike = both("allow", 0, 1) && both("allow", 1, 1) && both("buy", 0, 0, 500) && both("buy", 1, 0, 500);
        for (int k = 0; k < 50 && alike; k++) {
            int client = 2 + draw(3);
            int some = 1 + draw(3);
            alike = both("locate", client, 0, some) && both("sellShort", k, some);
        }
        int sales = 14 + draw(6);
        for (int k = 0; k < sales && alike; k++) {
            alike = both("sell", k % 2, 0, 500) && both("buy", k % 2, 0, 500);
        }
        return alike;
    }

    private static void note(String what, boolean so) {
        if (so) {
            REACHED.merge(what, 1, Integer::sum);
        }
    }

    private boolean ask() {
        String name = ASKS[draw(ASKS.length)];
        switch (name) {
            case "day": return both(name);
            case "position": case "part": case "partAnew": return both(name, client(), stock());
            case "clientOf": return both(name, client(), number(0, 4));
            case "lenderOf": return both(name, lender(), stock(), number(0, 3));
            case "stockOf": return both(name, stock(), number(0, 6));
            case "loanOf": return both(name, number(0, (int) model.count(0) - 1), number(0, 4));
            case "locateOf": return both(name, number(0, lastLocate()), number(0, 3));
            default: return both(name, number(0, 4));
        }
    }

    private boolean tell() {
        String name = TELLS[drawn()];
        int client = client();
        int stock = stock();
        switch (name) {
            case "price": return both(name, stock, draw(5) == 0 ? number(1, 100000) : number(1, 400));
            case "margin": return both(name, stock, number(10, 100));
            case "cash": return both(name, client, draw(9) == 0 ? number(-100000000, 100000000) : number(-30000, 30000));
            case "allow": return both(name, client, draw(4) > 0 ? 1 : 0);
            case "offer": return both(name, lender(), stock, number(0, size), draw(3) == 0 ? number(0, 10000) : number(0, 3));
            case "dividend": return both(name, stock, draw(5) == 0 ? number(1, 10000) : number(1, 50));
            case "pass": return both(name, draw(12) == 0 ? number(1, 50) : number(1, 2));
            case "buy": return both(name, client, stock, draw(9) == 0 ? number(1, 500) : number(1, size));
            case "sell": return both(name, client, stock, held(client, stock));
            case "locate": return both(name, client, stock, draw(9) == 0 ? number(1, 500) : number(1, size));
            case "sellShort": return useLocate();
            case "recall": return both(name, lender(), stock, number(1, 1 + size), number(1, 10));
            default: return both(name, client);
        }
    }

    private boolean useLocate() {
        int locate = draw(4) == 0 ? number(0, lastLocate()) : lastLocate() - draw(4);
        boolean is = locate >= 0 && locate <= lastLocate();
        return both("sellShort", locate, number(1, is ? (int) model.locateOf(locate, 2) : 1));
    }

    private int held(int client, int stock) {
        boolean is = client >= 0 && client < 6 && stock >= 0 && stock < 4 && model.has(client, stock) > 0;
        int most = is ? model.has(client, stock) : 3;
        return draw(3) == 0 ? most : number(1, most);
    }

    private int lastLocate() {
        int last = -1;
        for (int k = 0; k < 60; k++) {
            try {
                model.locateOf(k, 0);
                last = k;
            } catch (IndexOutOfBoundsException none) {
                break;
            }
        }
        return last;
    }

    private int drawn() {
        int sum = 0;
        for (int weight : WEIGHTS[kind]) {
            sum += weight;
        }
        int left = draw(sum);
        int at = 0;
        while (left >= WEIGHTS[kind][at]) {
            left -= WEIGHTS[kind][at];
            at++;
        }
        return at;
    }

    /** Mostly a number from low to high; the ends more often, and now and then one just outside. */
    private int number(int low, int high) {
        int way = draw(60);
        if (way == 0) {
            return low - 1;
        }
        if (way == 1) {
            return high + 1;
        }
        if (way < 6) {
            return way % 2 == 0 ? low : high;
        }
        return low + (high > low ? draw(high - low + 1) : 0);
    }

    private int client() {
        return number(0, 5);
    }

    private int lender() {
        return number(0, 3);
    }

    private int stock() {
        return number(0, stocks - 1);
    }

    private static String written(String name, int[] values) {
        StringBuilder text = new StringBuilder(name).append('(');
        for (int i = 0; i < values.length; i++) {
            boolean may = name.equals("allow") && i == 1;
            text.append(i > 0 ? ", " : "").append(may ? String.valueOf(values[i] != 0) : String.valueOf(values[i]));
        }
        return text.append(')').toString();
    }

    private boolean both(String name, int... values) {
        String call = written(name, values);
        past.append(call).append('\n');
        String due = Script.answer(model, call);
        String answer = Script.answer(program, call);
        REACHED.merge(name + (Script.isThrown(due) ? " " + due : ""), 1, Integer::sum);
        if (!due.equals(answer)) {
            System.out.println("run " + seed + ":\n" + past + "answered " + answer + ", the model " + due);
        }
        return due.equals(answer);
    }
}
