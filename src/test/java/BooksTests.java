/**
 * Books that must balance: behind drawn calls, what the program answers of positions, parts, loans,
 * pools and money must fit together as the document says, whatever the answers are.
 */
public final class BooksTests {
    private static final int RUNS = 400;
    private static final int DRAWN = 180;
    /** These are used at once, by a second call. */
    private static final int MOST_LOCATES = 40;
    private static final int STOCK = 1;
    private static final int OTHER = 3;
    /** Beside the loans, the books are asked for in fewer calls than these. */
    private static final int ASKED = 100;
    private static final int MOST_LOANS = (Script.CALLS - DRAWN - MOST_LOCATES - ASKED) / 4;
    private static int compared = 0;
    private static int refused = 0;
    private static long boughtIn = 0;

    private final Primeborrow object = new Primeborrow();
    private final int seed;
    private final int size;
    private final int[] offered = new int[4];
    /** What each lender told to be called back; it takes away that much at most. */
    private final int[] told = new int[4];
    private final int[] lentBy = new int[14];
    private final int[] borrowedBy = new int[6];
    private boolean recalled;
    private long state;
    private int open;
    private int locates;

    private BooksTests(int seed) {
        this.seed = seed;
        this.state = seed * 0x9E3779B97F4A7C15L + 7;
        this.size = seed % 3 == 0 ? 500 : 40;
    }

    public static void main(String[] args) {
        for (int seed = 1; seed <= RUNS; seed++) {
            BooksTests books = new BooksTests(seed);
            for (int k = 0; k < DRAWN; k++) {
                books.call();
            }
            books.expectBalance();
            books.expectMoneyKept();
            boughtIn += books.object.count(2);
        }
        System.out.println(RUNS + " runs, the loans of " + compared + " read, " + refused + " calls refused, "
            + boughtIn + " shares bought in");
        Script.expect("most runs' loans were read", String.valueOf(compared > RUNS / 2), "true");
        Script.expect("shares were bought in", String.valueOf(boughtIn > RUNS), "true");
        Script.end();
    }

    private int draw(int below) {
        state = state * 6364136223846793005L + 1442695040888963407L;
        return (int) ((state >>> 33) % below);
    }

    private int stock() {
        return draw(4) == 0 ? OTHER : STOCK;
    }

    /** A drawn call; one that is refused is as good as any. */
    private void call() {
        try {
            drawnCall(draw(20), draw(6), stock(), 1 + draw(size));
        } catch (IllegalStateException | IllegalArgumentException thrown) {
            refused++;
        }
    }

    private void drawnCall(int kind, int client, int stock, int shares) {
        if (kind < 4) {
            object.buy(client, stock, shares);
        } else if (kind < 7) {
            object.sell(client, stock, shares);
        } else if (kind < 11 && locates < MOST_LOCATES) {
            locates++;
            object.sellShort(object.locate(client, stock, shares), 1 + draw(shares));
        } else if (kind < 14) {
            offer(client % 4, stock, seed % 4 < 2 ? 1 + draw(3) : shares);
        } else if (kind < 16) {
            object.allow(client, draw(4) > 0);
        } else if (kind == 16 && seed % 2 == 0) {
            object.recall(client % 4, stock, shares, 1 + draw(4));
            told[client % 4] += stock == STOCK ? shares : 0;
            recalled = true;
        } else if (kind == 17) {
            object.pass(1);
        } else if (kind == 18 && draw(3) == 0) {
            object.liquidate(client);
        } else if (kind == 19 && draw(9) == 0) {
            object.fail(client);
        }
    }

    private void offer(int lender, int stock, int shares) {
        object.offer(lender, stock, shares, draw(500));
        if (stock == STOCK) {
            offered[lender] += shares;
        }
    }

    private void expect(String what, long answer, long due) {
        Script.expect("run " + seed + ": " + what, String.valueOf(answer), String.valueOf(due));
    }

    private void expectBalance() {
        long loans = object.count(0);
        if (loans <= MOST_LOANS) {
            readLoans((int) loans);
            expectLoans();
            compared++;
        }
        expectSums();
        for (int lender = 0; lender < 4; lender++) {
            long pool = object.lenderOf(lender, STOCK, 0);
            long taken = offered[lender] - pool - object.lenderOf(lender, STOCK, 1);
            expect("no pool below 0", Math.max(0, pool), pool);
            expect("lender " + lender + " took away what it recalled", Math.max(0, Math.min(told[lender], taken)), taken);
        }
    }

    private void readLoans(int loans) {
        for (int loan = 0; loan < loans; loan++) {
            int shares = object.loanOf(loan, 3);
            open += shares > 0 ? 1 : 0;
            if (object.loanOf(loan, 0) == STOCK) {
                int from = object.loanOf(loan, 1);
                int to = object.loanOf(loan, 2);
                lentBy[from] += shares;
                borrowedBy[to] += shares;
                Script.expect("run " + seed + ": loan " + loan + " is of another's shares", String.valueOf(from != to), "true");
            }
        }
    }

    private void expectLoans() {
        expect("loans that are not over", object.count(1), open);
        for (int client = 0; client < 6; client++) {
            int position = object.position(client, STOCK);
            expect("what client " + client + " borrows", borrowedBy[client], Math.max(0, -position));
            expect("the part of client " + client, object.part(client, STOCK), Math.max(0, position) - lentBy[client]);
        }
        for (int lender = 0; lender < 4; lender++) {
            expect("what lender " + lender + " has lent", object.lenderOf(lender, STOCK, 1), lentBy[10 + lender]);
        }
    }

    private void expectSums() {
        int allLong = 0;
        int allShort = 0;
        int parts = 0;
        for (int client = 0; client < 6; client++) {
            int position = object.position(client, STOCK);
            int part = object.part(client, STOCK);
            allLong += Math.max(0, position);
            allShort += Math.max(0, -position);
            parts += part;
            expect("the part of client " + client + ", found anew", object.partAnew(client, STOCK), part);
            expect("a position within its limits", Math.max(-500, Math.min(500, position)), position);
            expect("a part within the position", Math.max(0, Math.min(Math.max(0, position), part)), part);
        }
        int fromBox = object.stockOf(STOCK, 4);
        expect("what is long", object.stockOf(STOCK, 1), allLong);
        expect("what is short", object.stockOf(STOCK, 2), allShort);
        expect("what is in the box", object.stockOf(STOCK, 3), parts);
        expect("what is in the box or lent from it", parts + fromBox, allLong);
        expect("what is lent in all", fromBox + object.stockOf(STOCK, 5), allShort);
    }

    private long allMoney() {
        long sum = 0;
        for (int client = 0; client < 6; client++) {
            sum += object.clientOf(client, 0);
        }
        for (int lender = 0; lender < 4; lender++) {
            sum += object.lenderOf(lender, OTHER, 3);
        }
        return sum;
    }

    /** A dividend comes in for the shares in the box alone; a fee goes from one to the other. */
    private void expectMoneyKept() {
        long before = allMoney();
        int box = object.stockOf(STOCK, 3);
        object.dividend(STOCK, 9);
        expect("what came in by a dividend", allMoney() - before, 9L * box);
        if (!recalled) {
            before = allMoney();
            object.pass(1);
            expect("what came in by fees", allMoney() - before, 0);
        }
    }
}
