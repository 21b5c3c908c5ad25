import java.util.ArrayList;
import java.util.List;

/** The sentences ahead of the promises, but for those of loans: terms, trades, days, margins, exceptions. */
final class TermSentences {
    private static final String TERMS = Document.TERMS;

    private TermSentences() {
    }

    static void all() {
        whatItIs();
        rounding();
        stocksClientsLenders();
        buyingAndSelling();
        locates();
        fees();
        recalls();
        recallsMet();
        dividends();
        dividendsOfAll();
        needs();
        called();
        liquidated();
        failed();
        exceptions();
        everyMethodThrows();
    }

    private static void whatItIs() {
        String words = "An object is used for at most 512 calls after it has been made; what later calls answer is free.";
        List<String> lines = new ArrayList<>();
        for (int i = 1; i < Script.CALLS; i++) {
            lines.add("cash(0, 1) = " + i);
        }
        lines.add("buy(0, 0, 5) = 11");
        Script.run(Document.WHAT_IT_IS, words, lines.toArray(new String[0]));
        lines.clear();
        for (int i = 0; i < Script.CALLS / 2 - 1; i++) {
            lines.add("sellShort(" + i + ", 1) = index");
            lines.add("buy(" + i % 6 + ", " + i % 4 + ", 501) = argument");
        }
        lines.add("buy(0, 0, 500) = -50000");
        lines.add("partAnew(0, 0) = 500");
        Script.run(Document.WHAT_IT_IS, words, lines.toArray(new String[0]));
    }

    /** No division that the document tells of is of what is below 0; a short position's worth is without sign. */
    private static void rounding() {
        String words = "all divisions are rounded down, of what is below 0, too";
        Script.run(TERMS, words, "price(0, 19) = 100", "buy(0, 0, 1) = -19", "clientOf(0, 2) = 10", "margin(0, 33) = 50",
                "clientOf(0, 2) = 7", "price(0, 20) = 19", "clientOf(0, 2) = 8", "price(0, 9) = 20", "clientOf(0, 2) = 2",
                "price(0, 10) = 9", "clientOf(0, 2) = 4", "margin(0, 99) = 33", "price(0, 1) = 10", "clientOf(0, 2) = 0",
                "margin(0, 100) = 99", "clientOf(0, 2) = 1");
        Script.run(TERMS, words, "price(0, 19) = 100", "margin(0, 33) = 50", "offer(0, 0, 1, 0) = 1", "locate(0, 0, 1) = 0",
                "sellShort(0, 1) = 19", "clientOf(0, 2) = 7", "clientOf(0, 1) = 0");
        Script.run(TERMS, "Money is in cents", "buy(0, 0, 1) = -100", "price(0, 1) = 100", "sell(0, 0, 1) = -99");
    }

    private static void stocksClientsLenders() {
        List<String> days = new ArrayList<>(List.of("day() = 0"));
        for (int day = 50; day <= 450; day += 50) {
            days.add("pass(50) = " + day);
        }
        days.addAll(List.of("pass(49) = 499", "pass(1) = 500", "pass(1) = state", "day() = 500"));
        Script.run(TERMS, "Days are counted from 0, at most 500.", days.toArray(new String[0]));
        Script.run(TERMS, "There are the stocks 0 to 3, the clients 0 to 5 and the lenders 0 to 3.", "stockOf(-1, 0) = index",
                "stockOf(0, 0) = 100", "stockOf(3, 0) = 100", "stockOf(4, 0) = index", "clientOf(-1, 0) = index",
                "clientOf(0, 0) = 0", "clientOf(5, 0) = 0", "clientOf(6, 0) = index", "lenderOf(-1, 0, 0) = index",
                "lenderOf(0, 0, 0) = 0", "lenderOf(3, 0, 0) = 0", "lenderOf(4, 0, 0) = index");
        List<String> stocks = new ArrayList<>();
        List<String> clients = new ArrayList<>();
        List<String> lenders = new ArrayList<>();
        for (int stock = 0; stock < 4; stock++) {
            stocks.add("stockOf(" + stock + ", 0) = 100");
            stocks.add("stockOf(" + stock + ", 6) = 50");
            stocks.add("price(" + stock + ", 9) = 100");
            stocks.add("margin(" + stock + ", 10) = 50");
            for (int lender = 0; lender < 4; lender++) {
                lenders.add("lenderOf(" + lender + ", " + stock + ", 0) = 0");
                lenders.add("lenderOf(" + lender + ", " + stock + ", 2) = 0");
            }
        }
        for (int client = 0; client < 6; client++) {
            clients.add("clientOf(" + client + ", 0) = 0");
            clients.add("position(" + client + ", 1) = 0");
            clients.add("buy(" + client + ", 1, 2) = -200");
            clients.add("position(" + client + ", 1) = 2");
            clients.add("locate(" + (client + 1) % 6 + ", 1, 1) = state");
            clients.add("allow(" + client + ", false) = false");
        }
        clients.addAll(List.of("offer(3, 0, 2, 0) = 2", "locate(4, 0, 2) = 0", "sellShort(0, 2) = 0", "position(4, 0) = -2"));
        lenders.addAll(List.of("offer(0, 0, 36, 10000) = 36", "locate(1, 0, 36) = 0", "sellShort(0, 36) = 3600",
                "pass(10) = 10", "pass(50) = 60", "pass(50) = 110", "pass(50) = 160", "pass(50) = 210", "pass(50) = 260",
                "pass(50) = 310", "pass(49) = 359", "lenderOf(0, 0, 3) = 3590", "pass(1) = 360", "lenderOf(0, 0, 3) = 3600",
                "clientOf(1, 0) = 0"));
        Script.run(TERMS, "A stock has a price, 100 at first, and a margin, in hundredths, 50 at first.",
                stocks.toArray(new String[0]));
        Script.run(TERMS, "A client has cash, 0 at first, and in each stock a position, 0 at first: shares that it is long, or, "
                + "below 0, short; and may let its shares be lent, at first it does not.", clients.toArray(new String[0]));
        Script.run(TERMS, "in hundredths of a hundredth of the worth in a year of 360 days, 0 at first",
                lenders.toArray(new String[0]));
    }

    private static void buyingAndSelling() {
        Script.run(TERMS, "A client may buy shares, or sell shares that it has; to do so is to pay, or get, their price.",
                "price(2, 37) = 100", "buy(3, 2, 9) = -333", "price(2, 41) = 37", "sell(3, 2, 10) = state",
                "sell(3, 2, 9) = 36", "sell(3, 2, 1) = state", "clientOf(2, 0) = 0");
        Script.run(TERMS, "To buy is first to have fewer short, then to be longer.", "offer(0, 0, 5, 0) = 5",
                "locate(0, 0, 5) = 0", "sellShort(0, 5) = 500", "buy(0, 0, 4) = 100", "position(0, 0) = -1", "part(0, 0) = 0",
                "lenderOf(0, 0, 0) = 4", "loanOf(0, 3) = 1", "buy(0, 0, 1) = 0", "position(0, 0) = 0", "lenderOf(0, 0, 0) = 5",
                "part(0, 0) = 0", "buy(0, 0, 1) = -100", "position(0, 0) = 1", "part(0, 0) = 1", "partAnew(0, 0) = 1",
                "locate(1, 0, 5) = 1", "sellShort(1, 5) = 500", "buy(1, 0, 6) = -100", "position(1, 0) = 1",
                "part(1, 0) = 1", "lenderOf(0, 0, 0) = 5", "lenderOf(0, 0, 1) = 0");
        Script.run(TERMS, "A position is from -500 to 500.", "offer(0, 0, 500, 0) = 500", "offer(1, 0, 500, 0) = 500",
                "locate(0, 0, 500) = 0", "locate(0, 0, 1) = 1", "sellShort(0, 500) = 50000", "position(0, 0) = -500",
                "sellShort(1, 1) = state", "buy(0, 0, 500) = 0", "buy(0, 0, 500) = -50000", "position(0, 0) = 500",
                "buy(0, 0, 1) = state");
    }

    private static void locates() {
        Script.run(TERMS, "A client that is not long of a stock can sell short by a locate.", "offer(0, 0, 9, 0) = 9",
                "locate(0, 0, 3) = 0", "locate(0, 0, 3) = 1", "locate(0, 0, 3) = 2", "buy(0, 0, 1) = -100",
                "sellShort(0, 3) = state", "buy(0, 1, 1) = -200", "sell(0, 0, 1) = -100", "sellShort(0, 3) = 200",
                "sellShort(1, 3) = 500", "buy(0, 0, 7) = -200", "sellShort(2, 1) = state");
        Script.run(TERMS, "if so many can be borrowed as things are then, other locates not counted",
                "offer(0, 0, 9, 0) = 9", "locate(0, 0, 10) = state", "locate(0, 0, 9) = 0", "locate(1, 0, 9) = 1",
                "locate(1, 0, 9) = 2", "sellShort(0, 1) = 100", "locate(2, 0, 9) = state", "locate(2, 0, 8) = 3",
                "offer(0, 0, 1, 0) = 9", "locate(2, 0, 9) = 4");
        Script.run(TERMS, "it holds on its day, and on the next one; and it can be used once, for as many, or fewer",
                "offer(0, 0, 90, 0) = 90", "pass(3) = 3", "locate(0, 0, 9) = 0", "locate(0, 0, 9) = 1", "locate(0, 0, 9) = 2",
                "locate(0, 0, 9) = 3", "sellShort(0, 10) = argument", "sellShort(0, 9) = 900", "sellShort(0, 1) = state",
                "sellShort(1, 1) = 1000", "sellShort(1, 8) = state", "pass(1) = 4", "sellShort(2, 8) = 1800",
                "sellShort(2, 1) = state", "pass(1) = 5", "sellShort(3, 9) = state", "sellShort(3, 1) = state");
        List<String> lines = new ArrayList<>(List.of("offer(0, 0, 9, 0) = 9"));
        for (int day = 50; day <= 450; day += 50) {
            lines.add("pass(50) = " + day);
        }
        lines.addAll(List.of("pass(49) = 499", "locate(0, 0, 9) = 0", "pass(1) = 500", "locate(0, 0, 9) = 1",
                "sellShort(0, 4) = 400", "sellShort(1, 5) = 900"));
        Script.run(TERMS, "it holds on its day, and on the next one", lines.toArray(new String[0]));
        Script.run(TERMS, "The shares are borrowed then, if there are so many.", "offer(0, 0, 9, 50) = 9",
                "locate(0, 0, 9) = 0", "lenderOf(0, 0, 0) = 9", "offer(1, 0, 4, 49) = 4", "buy(5, 0, 3) = -300",
                "allow(5, true) = false", "sellShort(0, 8) = 800", "loanOf(0, 1) = 5", "loanOf(0, 3) = 3",
                "loanOf(1, 1) = 11", "loanOf(1, 3) = 4", "loanOf(2, 1) = 10", "loanOf(2, 3) = 1", "count(0) = 3",
                "locate(1, 0, 8) = 1", "locate(2, 0, 1) = 2", "sellShort(2, 1) = 100", "sellShort(1, 8) = state",
                "sellShort(1, 7) = 700", "lenderOf(0, 0, 0) = 0");
    }

    private static void fees() {
        String words = "its shares times the price times the fee, divided by 3600000, which the lender gets";
        Script.run(TERMS, words, "offer(0, 0, 403, 8933) = 403", "price(0, 1) = 100", "locate(1, 0, 403) = 0",
                "sellShort(0, 403) = 403", "pass(1) = 1", "lenderOf(0, 0, 3) = 0", "clientOf(1, 0) = 403",
                "pass(50) = 51", "lenderOf(0, 0, 3) = 0", "clientOf(1, 0) = 403");
        Script.run(TERMS, words, "offer(0, 0, 400, 9000) = 400", "price(0, 1) = 100", "locate(1, 0, 400) = 0",
                "sellShort(0, 400) = 400", "pass(1) = 1", "lenderOf(0, 0, 3) = 1", "clientOf(1, 0) = 399",
                "pass(50) = 51", "lenderOf(0, 0, 3) = 51", "clientOf(1, 0) = 349", "buy(1, 0, 1) = 348", "pass(1) = 52",
                "lenderOf(0, 0, 3) = 51");
        Script.run(TERMS, words, "offer(0, 0, 181, 1) = 181", "price(0, 39779) = 100", "locate(1, 0, 181) = 0",
                "sellShort(0, 181) = 7199999", "pass(1) = 1", "lenderOf(0, 0, 3) = 1", "clientOf(1, 0) = 7199998");
        Script.run(TERMS, words, "offer(0, 0, 180, 1) = 180", "price(0, 40000) = 100", "locate(1, 0, 180) = 0",
                "sellShort(0, 180) = 7200000", "pass(1) = 1", "lenderOf(0, 0, 3) = 2", "clientOf(1, 0) = 7199998");
        Script.run(TERMS, words, "offer(0, 0, 500, 10000) = 500", "price(0, 100000) = 100", "locate(2, 0, 500) = 0",
                "sellShort(0, 500) = 50000000", "pass(1) = 1", "clientOf(2, 0) = 49861112", "lenderOf(0, 0, 3) = 138888");
        Script.run(TERMS, "each loan from a lender costs its client", "offer(0, 0, 19, 3600) = 19",
                "offer(1, 0, 15, 3600) = 15", "buy(4, 0, 30) = -3000", "allow(4, true) = false", "locate(2, 0, 64) = 0",
                "sellShort(0, 64) = 6400", "pass(1) = 1", "clientOf(2, 0) = 6398", "lenderOf(0, 0, 3) = 1",
                "lenderOf(1, 3, 3) = 1", "clientOf(4, 0) = -3000", "pass(10) = 11", "clientOf(2, 0) = 6378",
                "lenderOf(0, 0, 3) = 11", "price(0, 1000) = 100", "pass(1) = 12", "clientOf(2, 0) = 6344",
                "lenderOf(0, 0, 3) = 30", "lenderOf(1, 0, 3) = 26");
        Script.run(TERMS, "then it is the next day; then recalls that are due, by rising numbers, are met",
                "offer(0, 0, 10, 3600) = 10", "price(0, 1000) = 100", "locate(0, 0, 10) = 0", "sellShort(0, 10) = 10000",
                "recall(0, 0, 10, 2) = 0", "pass(1) = 1", "position(0, 0) = -10", "pass(4) = 5", "lenderOf(0, 0, 3) = 20",
                "clientOf(0, 0) = -520", "position(0, 0) = 0");
        Script.run(TERMS, "then recalls that are due, by rising numbers, are met",
                "offer(1, 0, 10, 50) = 10", "locate(0, 0, 10) = 0", "sellShort(0, 10) = 1000", "offer(0, 0, 15, 0) = 15",
                "recall(1, 0, 10, 1) = 0", "recall(0, 0, 15, 1) = 1", "pass(1) = 1", "position(0, 0) = 0",
                "count(0) = 2", "count(1) = 0", "count(2) = 10", "count(4) = 2", "clientOf(0, 0) = -50",
                "lenderOf(0, 0, 0) = 5", "lenderOf(1, 0, 0) = 0");
        Script.run(TERMS, "then recalls that are due, by rising numbers, are met",
                "offer(1, 0, 10, 50) = 10", "locate(0, 0, 10) = 0", "sellShort(0, 10) = 1000", "offer(0, 0, 15, 0) = 15",
                "recall(0, 0, 15, 1) = 0", "recall(1, 0, 10, 1) = 1", "pass(1) = 1", "position(0, 0) = -10",
                "count(0) = 2", "count(1) = 1", "count(2) = 0", "count(4) = 2", "loanOf(1, 1) = 10", "lenderOf(0, 0, 0) = 5");
    }

    private static void recalls() {
        List<String> lines = new ArrayList<>(List.of("offer(0, 0, 8, 0) = 8", "locate(0, 0, 8) = 0", "sellShort(0, 8) = 800",
                "recall(0, 0, 1, 0) = argument", "recall(0, 0, 1, 11) = argument"));
        for (int i = 0; i < 40; i++) {
            lines.add("recall(0, " + i % 3 + ", 1, " + (1 + i % 10) + ") = " + i);
        }
        lines.addAll(List.of("recall(0, 0, 1, 1) = state", "pass(9) = 9", "count(4) = 36", "pass(1) = 10", "count(4) = 40",
                "recall(0, 0, 1, 1) = state"));
        Script.run(TERMS, "A lender can recall shares that it has lent, with a notice, 1 to 10 days; at most 40 recalls.",
                lines.toArray(new String[0]));
        String words = "as many as are told, or as the lender has lent still, are called back from its loans, the latest first";
        for (int told = 4; told <= 6; told++) {
            int back = Math.min(5, told);
            Script.run(TERMS, words, "offer(0, 0, 7, 0) = 7", "locate(0, 0, 3) = 0", "locate(1, 0, 2) = 1",
                    "sellShort(0, 3) = 300", "sellShort(1, 2) = 200", "recall(0, 0, " + told + ", 3) = 0", "pass(2) = 2",
                    "lenderOf(0, 0, 1) = 5", "pass(1) = 3", "lenderOf(0, 0, 1) = " + (5 - back), "lenderOf(0, 0, 0) = 2",
                    "loanOf(1, 3) = 0", "loanOf(0, 3) = " + (5 - back), "count(2) = " + back,
                    "position(0, 0) = " + (back - 5), "position(1, 0) = 0", "clientOf(1, 0) = -10");
        }
        Script.run(TERMS, words, "offer(0, 0, 5, 0) = 5", "locate(0, 0, 5) = 0", "sellShort(0, 5) = 500",
                "recall(0, 0, 4, 1) = 0", "buy(0, 0, 3) = 200", "pass(1) = 1", "lenderOf(0, 0, 0) = 3",
                "lenderOf(0, 0, 1) = 0", "position(0, 0) = 0", "clientOf(0, 0) = -10", "count(2) = 2", "count(4) = 1");
        Script.run(TERMS, words, "offer(0, 0, 5, 0) = 5", "recall(0, 0, 4, 2) = 0", "pass(1) = 1", "locate(0, 0, 5) = 0",
                "sellShort(0, 5) = 500", "pass(1) = 2", "position(0, 0) = -1", "lenderOf(0, 0, 1) = 1");
        Script.run(TERMS, words, "offer(0, 0, 5, 0) = 5", "offer(1, 0, 5, 1) = 5", "offer(0, 1, 5, 0) = 5",
                "locate(0, 0, 10) = 0", "sellShort(0, 10) = 1000", "locate(0, 1, 5) = 1", "sellShort(1, 5) = 1500",
                "recall(0, 0, 500, 1) = 0", "pass(1) = 1", "position(0, 0) = -5", "position(0, 1) = -5", "loanOf(1, 3) = 5",
                "loanOf(2, 3) = 5", "lenderOf(0, 0, 0) = 0", "lenderOf(0, 1, 1) = 5", "clientOf(0, 0) = 975");
        Script.run(TERMS, "each replaced as told (also not by that lender), or bought in",
                "offer(0, 0, 8, 10) = 8", "locate(0, 0, 4) = 0", "locate(1, 0, 4) = 1", "sellShort(0, 3) = 300",
                "sellShort(1, 2) = 200", "buy(2, 0, 1) = -100", "allow(2, true) = false", "offer(1, 0, 1, 5) = 1",
                "recall(0, 0, 4, 3) = 0", "pass(2) = 2", "lenderOf(0, 0, 1) = 5", "pass(1) = 3", "lenderOf(0, 0, 1) = 1",
                "lenderOf(0, 0, 0) = 3", "loanOf(1, 3) = 0", "loanOf(0, 3) = 1", "loanOf(2, 1) = 2", "loanOf(2, 2) = 1",
                "loanOf(2, 3) = 1", "loanOf(3, 1) = 11", "loanOf(3, 2) = 1", "count(0) = 4", "count(2) = 2",
                "position(0, 0) = -1", "position(1, 0) = -2", "clientOf(0, 0) = 90", "clientOf(1, 0) = 200",
                "part(2, 0) = 0", "buy(0, 0, 1) = -10", "lenderOf(0, 0, 0) = 4");
    }

    private static void recallsMet() {
        String words = "the lender takes these away, and its pool is as it was";
        Script.run(TERMS, words, "offer(3, 2, 9, 0) = 9", "locate(0, 2, 5) = 0", "sellShort(0, 5) = 500",
                "recall(3, 2, 4, 1) = 0", "pass(1) = 1", "lenderOf(3, 2, 0) = 4", "lenderOf(3, 2, 1) = 1", "count(0) = 1",
                "count(2) = 4", "position(0, 2) = -1", "clientOf(0, 0) = 80", "buy(0, 2, 1) = -20", "lenderOf(3, 2, 0) = 5");
        Script.run(TERMS, words, "offer(3, 2, 5, 0) = 5", "offer(0, 2, 5, 9) = 5", "locate(0, 2, 5) = 0",
                "sellShort(0, 5) = 500", "recall(3, 2, 5, 1) = 0", "pass(1) = 1", "lenderOf(3, 2, 0) = 0",
                "lenderOf(3, 2, 1) = 0", "lenderOf(0, 2, 0) = 0", "lenderOf(0, 2, 1) = 5", "position(0, 2) = -5",
                "locate(1, 2, 1) = state", "loanOf(1, 1) = 10", "loanOf(1, 4) = 9");
        words = "A recall that was due is met, whatever came of it.";
        Script.run(TERMS, words, "offer(0, 0, 5, 0) = 5", "recall(0, 0, 5, 1) = 0", "recall(1, 1, 9, 1) = 1", "pass(1) = 1",
                "count(4) = 2", "lenderOf(0, 0, 0) = 5", "count(2) = 0", "locate(0, 0, 5) = 0", "sellShort(0, 5) = 500",
                "pass(1) = 2", "lenderOf(0, 0, 1) = 5", "count(4) = 2");
        Script.run(TERMS, words, "offer(0, 0, 5, 0) = 5", "locate(0, 0, 5) = 0", "sellShort(0, 5) = 500",
                "recall(0, 0, 3, 1) = 0", "recall(0, 0, 3, 1) = 1", "recall(0, 0, 3, 1) = 2", "pass(1) = 1", "count(4) = 3",
                "count(2) = 5", "lenderOf(0, 0, 1) = 0", "position(0, 0) = 0");
        List<String> lines = new ArrayList<>();
        for (int day = 50; day <= 450; day += 50) {
            lines.add("pass(50) = " + day);
        }
        lines.addAll(List.of("pass(40) = 490", "recall(0, 0, 1, 10) = 0", "pass(1) = 491", "recall(0, 0, 1, 10) = 1",
                "recall(0, 0, 1, 9) = 2", "pass(8) = 499", "count(4) = 0", "pass(1) = 500", "count(4) = 2", "pass(1) = state",
                "count(4) = 2"));
        Script.run(TERMS, words, lines.toArray(new String[0]));
    }

    private static void dividends() {
        Script.run(TERMS, "A dividend is paid to each client for what it is long, and by each for what it is short; a lender "
                + "gets it for what it has lent.", "buy(0, 0, 50) = -5000", "allow(0, true) = false", "buy(3, 0, 1) = -100",
                "offer(2, 0, 20, 0) = 20", "offer(1, 0, 9, 5) = 9", "locate(1, 0, 51) = 0", "sellShort(0, 51) = 5100",
                "part(0, 0) = 0", "dividend(0, 10) = 10", "clientOf(0, 0) = -4500", "clientOf(1, 0) = 4590",
                "clientOf(3, 0) = -90", "clientOf(4, 0) = 0", "lenderOf(2, 0, 3) = 10", "lenderOf(1, 0, 3) = 0",
                "sell(3, 0, 1) = 10", "buy(1, 0, 51) = -510", "dividend(0, 10) = 0", "clientOf(0, 0) = -4000",
                "clientOf(1, 0) = -510", "clientOf(3, 0) = 10", "lenderOf(2, 0, 3) = 10");
    }

    private static void dividendsOfAll() {
        List<String> lines = new ArrayList<>();
        for (int client = 0; client < 6; client++) {
            lines.add("buy(" + client + ", 3, " + (client + 1) + ") = " + -100 * (client + 1));
            lines.add("allow(" + client + ", true) = false");
        }
        for (int lender = 0; lender < 4; lender++) {
            lines.add("offer(" + lender + ", 0, 500, 0) = 500");
            lines.add("locate(" + (5 - lender) + ", 0, 500) = " + lender);
            lines.add("sellShort(" + lender + ", " + (lender + 1) + ") = " + 100 * (2 * lender - 5));
        }
        lines.add("dividend(3, 10) = 0");
        lines.add("dividend(0, 1000) = 10000");
        for (int client = 0; client < 6; client++) {
            int shortOf = client < 2 ? 0 : 6 - client;
            lines.add("position(" + client + ", 0) = " + -shortOf);
            lines.add("clientOf(" + client + ", 0) = " + (-90 * (client + 1) - 900 * shortOf));
        }
        lines.add("stockOf(0, 2) = 10");
        lines.add("stockOf(3, 1) = 21");
        Script.run(TERMS, "A dividend is paid to each client for what it is long, and by each for what it is short",
                lines.toArray(new String[0]));
    }

    private static void needs() {
        Script.run(TERMS, "the worth of its position, without sign, times the margin, divided by 100", "offer(0, 1, 9, 0) = 9",
                "locate(0, 1, 9) = 0", "sellShort(0, 9) = 900", "clientOf(0, 2) = 540", "margin(1, 10) = 50",
                "clientOf(0, 2) = 180", "margin(1, 100) = 10", "clientOf(0, 2) = 990", "buy(0, 1, 8) = 100",
                "clientOf(0, 2) = 110", "buy(0, 1, 1) = 0", "clientOf(0, 2) = 0", "buy(0, 1, 1) = -100", "clientOf(0, 2) = 110");
        String words = "if that worth is more than half of the worths of all its positions, without sign, together, another "
            + "tenth of that worth";
        Script.run(TERMS, words, "buy(0, 0, 10) = -1000", "clientOf(0, 2) = 600", "offer(0, 1, 30, 0) = 30",
                "locate(0, 1, 30) = 0", "sellShort(0, 10) = 0", "clientOf(0, 2) = 1000", "clientOf(0, 1) = 0",
                "price(1, 101) = 100", "clientOf(0, 2) = 1106", "clientOf(0, 1) = -10", "price(0, 102) = 100",
                "clientOf(0, 2) = 1117", "clientOf(0, 1) = 10", "buy(0, 2, 1) = -100", "clientOf(0, 2) = 1065",
                "margin(1, 100) = 50", "clientOf(0, 2) = 1570");
        Script.run(TERMS, words, "price(0, 51) = 100", "price(1, 50) = 100", "buy(0, 0, 1) = -51", "buy(0, 1, 1) = -101",
                "clientOf(0, 2) = 55", "price(0, 50) = 51", "clientOf(0, 2) = 50", "price(1, 49) = 50", "clientOf(0, 2) = 54");
        Script.run(TERMS, words, "buy(0, 0, 10) = -1000", "buy(0, 1, 6) = -1600", "buy(0, 2, 3) = -1900",
                "clientOf(0, 2) = 1050", "buy(0, 3, 1) = -2000", "clientOf(0, 2) = 1000", "price(3, 99) = 100",
                "clientOf(0, 2) = 1099", "price(0, 99) = 100", "clientOf(0, 2) = 994");
        Script.run(TERMS, words, "price(0, 100000) = 100", "price(1, 100000) = 100", "buy(0, 0, 500) = -50000000",
                "buy(0, 1, 499) = -99900000", "clientOf(0, 2) = 54950000", "buy(0, 1, 1) = -100000000",
                "clientOf(0, 2) = 50000000");
        Script.run(TERMS, "Its equity is its cash and the worths of all its positions, with their signs, together.",
                "offer(0, 1, 9, 0) = 9", "locate(0, 1, 9) = 0", "sellShort(0, 9) = 900", "clientOf(0, 1) = 0",
                "price(1, 150) = 100", "clientOf(0, 1) = -450", "buy(0, 0, 4) = 500", "clientOf(0, 1) = -450",
                "price(0, 250) = 100", "clientOf(0, 1) = 150", "cash(0, 7) = 507", "clientOf(0, 1) = 157",
                "price(1, 1) = 150", "clientOf(0, 1) = 1498");
    }

    private static void called() {
        String words = "It is called, if its equity is less than its need.";
        Script.run(TERMS, words, "clientOf(0, 3) = 0", "cash(0, 600) = 600", "buy(0, 0, 10) = -400", "clientOf(0, 1) = 600",
                "clientOf(0, 2) = 600", "clientOf(0, 3) = 0", "liquidate(0) = state", "margin(0, 51) = 50",
                "clientOf(0, 3) = 1", "margin(0, 50) = 51", "clientOf(0, 3) = 0", "price(0, 99) = 100", "clientOf(0, 1) = 590",
                "clientOf(0, 2) = 594", "clientOf(0, 3) = 1");
        Script.run(TERMS, words, "offer(0, 1, 10, 0) = 10", "locate(0, 1, 10) = 0", "sellShort(0, 10) = 1000",
                "cash(0, 599) = 1599", "clientOf(0, 3) = 1", "cash(0, 1) = 1600", "clientOf(0, 3) = 0");
        Script.run(TERMS, words, "offer(0, 3, 100, 0) = 100", "locate(1, 3, 100) = 0", "sellShort(0, 100) = 10000",
                "price(3, 150) = 100", "clientOf(1, 1) = -5000", "liquidate(1) = 1", "clientOf(1, 0) = -5000",
                "clientOf(1, 2) = 0", "clientOf(1, 3) = 1", "liquidate(1) = 0", "cash(1, 4999) = -1", "clientOf(1, 3) = 1",
                "cash(1, 1) = 0", "clientOf(1, 3) = 0", "liquidate(1) = state", "buy(1, 0, 1) = -100");
    }

    private static void liquidated() {
        String words = "the one of the greatest worth without sign first";
        Script.run(TERMS, words, "offer(0, 3, 100, 0) = 100", "locate(1, 3, 100) = 0", "sellShort(0, 100) = 10000",
                "buy(1, 0, 50) = 5000", "price(3, 30) = 100", "clientOf(1, 3) = 0", "price(3, 101) = 30",
                "clientOf(1, 2) = 8560", "clientOf(1, 3) = 1", "liquidate(1) = 2", "position(1, 0) = 0", "position(1, 3) = 0",
                "clientOf(1, 0) = -100", "lenderOf(0, 3, 0) = 100");
        Script.run(TERMS, words, "cash(0, 700) = 700", "buy(0, 0, 10) = -300", "offer(0, 2, 11, 0) = 11",
                "locate(0, 2, 11) = 0", "sellShort(0, 11) = 800", "clientOf(0, 1) = 700", "clientOf(0, 2) = 1160",
                "liquidate(0) = 1", "position(0, 0) = 10", "position(0, 2) = 0", "clientOf(0, 0) = -300");
        Script.run(TERMS, words, "cash(0, 700) = 700", "buy(0, 0, 11) = -400", "offer(0, 2, 10, 0) = 10",
                "locate(0, 2, 10) = 0", "sellShort(0, 10) = 600", "liquidate(0) = 1", "position(0, 0) = 0",
                "position(0, 2) = -10", "clientOf(0, 0) = 1700");
        words = "of several the lowest stock, until it is not called any more, or has none";
        Script.run(TERMS, words, "cash(0, 12000) = 12000", "buy(0, 2, 100) = 2000", "buy(0, 1, 100) = -8000",
                "liquidate(0) = state", "price(1, 80) = 100", "price(2, 80) = 100", "clientOf(0, 3) = 0",
                "liquidate(0) = state", "price(1, 79) = 80", "price(2, 79) = 80", "clientOf(0, 3) = 1", "liquidate(0) = 1",
                "position(0, 1) = 0", "position(0, 2) = 100", "clientOf(0, 0) = -100", "clientOf(0, 3) = 0",
                "liquidate(0) = state");
        Script.run(TERMS, words, "offer(0, 0, 5, 0) = 5", "locate(0, 0, 5) = 0", "sellShort(0, 5) = 500", "buy(0, 3, 5) = 0",
                "cash(0, 300) = 300", "clientOf(0, 2) = 500", "liquidate(0) = 1", "position(0, 0) = 0", "position(0, 3) = 5",
                "clientOf(0, 1) = 300");
        words = "until it is not called any more";
        Script.run(TERMS, words, "cash(0, 600) = 600", "buy(0, 0, 20) = -1400", "buy(0, 1, 10) = -2400",
                "clientOf(0, 2) = 1700", "liquidate(0) = 1", "position(0, 0) = 0", "position(0, 1) = 10",
                "clientOf(0, 1) = 600", "clientOf(0, 2) = 600", "liquidate(0) = state");
        Script.run(TERMS, words, "cash(0, 599) = 599", "buy(0, 0, 20) = -1401", "buy(0, 1, 10) = -2401",
                "liquidate(0) = 2", "position(0, 0) = 0", "position(0, 1) = 0", "clientOf(0, 0) = 599");
        Script.run(TERMS, "or has none", "buy(0, 0, 1) = -100", "price(0, 1) = 100", "liquidate(0) = 1",
                "clientOf(0, 0) = -99", "clientOf(0, 3) = 1", "liquidate(0) = 0", "clientOf(0, 0) = -99");
        Script.run(TERMS, "it sells what it is long, and buys what it is short", "buy(0, 0, 10) = -1000",
                "allow(0, true) = false", "locate(1, 0, 10) = 0", "sellShort(0, 10) = 1000", "clientOf(0, 3) = 1",
                "liquidate(0) = 1", "position(1, 0) = 0", "clientOf(1, 0) = -50", "count(2) = 10", "clientOf(0, 0) = 0",
                "offer(0, 1, 5, 0) = 5", "locate(1, 1, 5) = 1", "sellShort(1, 5) = 450", "liquidate(1) = 1",
                "clientOf(1, 0) = -50", "lenderOf(0, 1, 0) = 5", "count(2) = 10");
    }

    private static void failed() {
        Script.run(TERMS, "A client that fails closes all its positions", "cash(0, 100) = 100", "buy(0, 0, 10) = -900",
                "buy(0, 2, 10) = -1900", "price(0, 90) = 100", "offer(1, 1, 7, 0) = 7", "locate(0, 1, 7) = 0",
                "sellShort(0, 7) = -1200", "offer(2, 3, 1, 0) = 1", "locate(0, 3, 1) = 1", "sellShort(1, 1) = -1100",
                "fail(0) = 0", "clientOf(0, 0) = 0", "clientOf(0, 1) = 0", "clientOf(0, 2) = 0", "clientOf(0, 3) = 0",
                "position(0, 0) = 0", "position(0, 1) = 0", "position(0, 2) = 0", "position(0, 3) = 0",
                "lenderOf(1, 1, 0) = 7", "lenderOf(2, 3, 0) = 1", "count(1) = 0", "count(3) = 0");
        Script.run(TERMS, "A client that fails closes all its positions", "buy(0, 0, 10) = -1000", "allow(0, true) = false",
                "locate(1, 0, 10) = 0", "sellShort(0, 10) = 1000", "offer(2, 0, 6, 30) = 6", "fail(0) = 0",
                "position(1, 0) = -6", "loanOf(1, 1) = 12", "loanOf(1, 3) = 6", "count(2) = 4", "clientOf(1, 0) = 580",
                "part(0, 0) = 0", "partAnew(0, 0) = 0");
        Script.run(TERMS, "it trades no more", "offer(0, 0, 9, 0) = 9", "locate(1, 0, 2) = 0", "buy(1, 1, 5) = -500",
                "allow(1, true) = false", "fail(1) = 0", "buy(1, 0, 1) = state", "sell(1, 1, 1) = state",
                "locate(1, 0, 1) = state", "sellShort(0, 1) = state", "cash(1, 5) = state", "allow(1, true) = state",
                "liquidate(1) = state", "fail(1) = state", "locate(2, 1, 1) = state", "dividend(1, 5) = 0", "pass(1) = 1",
                "clientOf(1, 0) = 0");
        Script.run(TERMS, "it trades no more", "buy(0, 0, 10) = -1000", "allow(0, true) = false", "locate(1, 0, 10) = 0",
                "sellShort(0, 10) = 1000", "fail(1) = 0", "part(0, 0) = 10", "partAnew(0, 0) = 10", "clientOf(1, 0) = 0",
                "locateOf(0, 3) = 0", "clientOf(0, 0) = -1000", "count(2) = 0");
        String words = "If its cash is below 0 then, that is lost by the broker, and it is 0; otherwise it stays.";
        Script.run(TERMS, words, "buy(0, 0, 1) = -100", "buy(1, 0, 1) = -100", "buy(2, 0, 1) = -100", "fail(0) = 0",
                "clientOf(0, 0) = 0", "count(3) = 0", "price(0, 99) = 100", "fail(1) = 1", "clientOf(1, 0) = 0",
                "count(3) = 1", "price(0, 101) = 99", "fail(2) = 0", "clientOf(2, 0) = 1", "count(3) = 1");
    }

    private static void exceptions() {
        Script.run(TERMS, "An IndexOutOfBoundsException is thrown if there is no such stock, client, lender, loan or locate",
                "price(4, 1) = index", "cash(6, 1) = index", "offer(4, 0, 1, 1) = index", "loanOf(0, 0) = index",
                "locateOf(0, 0) = index", "sellShort(0, 1) = index", "recall(-1, 0, 1, 1) = index", "fail(-1) = index");
        Script.run(TERMS, "an IllegalArgumentException if another argument is out of range", "price(3, 0) = argument",
                "cash(5, 100000001) = argument", "pass(0) = argument", "count(5) = argument", "clientOf(0, 5) = argument",
                "recall(0, 0, 1, 11) = argument");
        Script.run(TERMS, "an IllegalStateException as told", "cash(0, -1) = state", "liquidate(0) = state",
                "sell(0, 0, 1) = state", "locate(0, 0, 1) = state");
        Script.run(TERMS, "If several exceptions of a throws clause apply, the one that is listed first is thrown.",
                "fail(1) = 0", "buy(1, 4, 0) = index", "buy(6, 0, 0) = index", "buy(1, 0, 0) = argument", "buy(1, 0, 1) = state",
                "cash(6, -100000001) = index", "cash(1, -100000001) = argument", "cash(1, 0) = state", "allow(6, true) = index",
                "allow(1, true) = state", "sellShort(0, 0) = index", "loanOf(0, 5) = index", "locateOf(-1, 4) = index");
        Script.expect("Terms: The constants: NONE", String.valueOf(Primeborrow.NONE), "-1");
        Document.name(TERMS, "The constants: `NONE = -1`: There is none.");
    }

    /** Each of these lines is found to have changed nothing, in a room where all has happened that can. */
    private static void everyMethodThrows() {
        Script.run(TERMS, "A call of a method that throws an exception changes nothing.", "price(1, 73) = 100",
                "buy(0, 0, 30) = -3000", "buy(1, 1, 20) = -1460", "allow(0, true) = false", "allow(1, true) = false",
                "offer(0, 0, 25, 3600) = 25", "offer(2, 1, 25, 100) = 25", "locate(3, 0, 40) = 0", "sellShort(0, 35) = 3500",
                "locate(4, 1, 30) = 1", "locate(3, 1, 44) = 2", "sellShort(2, 44) = 6712", "recall(0, 0, 4, 2) = 0",
                "recall(2, 1, 500, 1) = 1", "pass(1) = 1", "sell(1, 1, 6) = -1022", "dividend(0, 7) = 35", "fail(5) = 0",
                "cash(0, 5000) = 2210", "price(0, 0) = argument", "margin(0, 9) = argument", "cash(1, -1) = state", "cash(5, 1) = state",
                "allow(5, true) = state", "offer(0, 0, 501, 9) = argument", "offer(0, 0, 1, 10001) = argument",
                "dividend(0, 0) = argument", "pass(51) = argument", "buy(0, 0, 500) = state", "buy(5, 0, 1) = state",
                "sell(0, 0, 31) = state", "sell(3, 0, 1) = state", "locate(2, 0, 500) = state", "sellShort(0, 1) = state",
                "sellShort(1, 30) = state", "sellShort(1, 31) = argument", "recall(0, 0, 1, 11) = argument",
                "liquidate(0) = state", "liquidate(5) = state", "fail(5) = state", "fail(6) = index", "position(0, 4) = index",
                "part(6, 0) = index", "partAnew(-1, 0) = index", "clientOf(0, 5) = argument", "lenderOf(0, 0, 4) = argument",
                "stockOf(0, 7) = argument", "loanOf(99, 0) = index", "locateOf(3, 0) = index", "count(5) = argument");
    }
}
