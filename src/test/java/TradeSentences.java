import java.util.ArrayList;
import java.util.List;

/** The sentences of promises 9 to 15: trades and loans. */
final class TradeSentences {
    private static final String NO_CLIENT_OR_STOCK = "Throws `IndexOutOfBoundsException` if there is no such client or stock";
    private static final String SHARES = "Throws `IllegalArgumentException` if shares are out of range";

    private TradeSentences() {
    }

    static void all() {
        promise9();
        promise10();
        promise11();
        locatesRefused();
        promise12();
        locatesUsed();
        shortSalesRefused();
        promise13();
        promise14();
        promise15();
    }

    private static void promise9() {
        Ranges.of("Promise 9", "buy", "1", "2", "30").index("`client`: 0 to 5", 0, 5).index("`stock`: 0 to 3", 0, 3)
            .argument("`shares`: 1 to 500", 1, 500).behind().refusedBehind("fail(1)").refusedBehind("buy(1, 2, 471)");
        Script.run("Promise 9", "A client buys.", "buy(4, 3, 7) = -700", "position(4, 3) = 7", "part(4, 3) = 7",
                "partAnew(4, 3) = 7", "position(4, 2) = 0", "position(3, 3) = 0");
        Script.run("Promise 9", "Returns its cash then.", "cash(0, 250) = 250", "buy(0, 0, 1) = 150", "price(0, 51) = 100",
                "buy(0, 0, 3) = -3", "clientOf(0, 0) = -3", "clientOf(0, 1) = 201");
        Script.run("Promise 9", "Returns its cash then.", "price(3, 100000) = 100", "buy(0, 3, 500) = -50000000",
                "cash(0, 100000000) = 50000000", "buy(1, 3, 499) = -49900000");
        Script.run("Promise 9", NO_CLIENT_OR_STOCK, "buy(-1, 0, 1) = index", "buy(0, 0, 1) = -100", "buy(6, 0, 1) = index",
                "buy(5, 0, 1) = -100", "buy(0, -1, 1) = index", "buy(0, 4, 1) = index", "buy(0, 3, 1) = -200",
                "buy(6, 0, 0) = index", "buy(0, 4, 501) = index");
        Script.run("Promise 9", SHARES, "buy(1, 0, 0) = argument", "buy(1, 0, 1) = -100", "buy(2, 0, 501) = argument",
                "buy(2, 0, 500) = -50000", "buy(2, 0, 501) = argument", "buy(2, 0, 0) = argument", "buy(2, 0, -1) = argument");
        Script.run("Promise 9", "if it has failed", "buy(2, 0, 1) = -100", "fail(2) = 0", "buy(2, 0, 1) = state",
                "buy(2, 1, 500) = state", "buy(2, 0, 0) = argument", "buy(2, 4, 1) = index", "buy(1, 0, 1) = -100",
                "buy(3, 0, 1) = -100");
        String words = "or the position would be above 500";
        Script.run("Promise 9", words, "buy(0, 0, 1) = -100", "buy(0, 0, 500) = state", "buy(0, 0, 499) = -50000",
                "buy(0, 0, 1) = state", "position(0, 0) = 500", "part(0, 0) = 500", "partAnew(0, 0) = 500",
                "buy(0, 1, 500) = -100000", "buy(1, 0, 500) = -50000", "sell(0, 0, 1) = -99900", "buy(0, 0, 2) = state",
                "buy(0, 0, 1) = -100000");
        Script.run("Promise 9", words, "offer(0, 0, 20, 0) = 20", "locate(0, 0, 20) = 0", "sellShort(0, 20) = 2000",
                "buy(0, 0, 500) = -48000", "position(0, 0) = 480", "buy(0, 0, 21) = state", "buy(0, 0, 20) = -50000",
                "part(0, 0) = 500", "partAnew(0, 0) = 500");
        Script.run("Promise 9", words, "buy(0, 0, 500) = -50000", "allow(0, true) = false", "locate(1, 0, 500) = 0",
                "sellShort(0, 500) = 50000", "part(0, 0) = 0", "buy(0, 0, 1) = state", "sell(0, 0, 1) = -49900",
                "buy(0, 0, 2) = state", "buy(0, 0, 1) = -50000", "part(0, 0) = 1");
    }

    private static void promise10() {
        Ranges.of("Promise 10", "sell", "1", "2", "30").index("`client`: 0 to 5", 0, 5).index("`stock`: 0 to 3", 0, 3)
            .argument("`shares`: 1 to 500", 1, 500).behind("buy(1, 2, 500)", "buy(0, 2, 500)", "buy(5, 2, 500)",
                "buy(1, 0, 500)", "buy(1, 3, 500)")
            .refusedBehind().refusedBehind("buy(1, 2, 29)").refusedBehind("buy(1, 2, 30)", "fail(1)");
        Script.run("Promise 10", "A client sells what it is long.", "buy(0, 0, 30) = -3000", "sell(0, 0, 10) = -2000",
                "position(0, 0) = 20", "part(0, 0) = 20", "partAnew(0, 0) = 20", "sell(0, 0, 20) = 0", "position(0, 0) = 0");
        Script.run("Promise 10", "Returns its cash then.", "buy(0, 0, 30) = -3000", "price(0, 110) = 100",
                "sell(0, 0, 10) = -1900", "clientOf(0, 1) = 300", "sell(0, 0, 20) = 300", "price(3, 100000) = 100",
                "buy(0, 3, 500) = -49999700", "sell(0, 3, 500) = 300");
        Script.run("Promise 10", NO_CLIENT_OR_STOCK, "buy(0, 0, 9) = -900", "sell(-1, 0, 1) = index", "sell(6, 0, 1) = index",
                "sell(0, -1, 1) = index", "sell(0, 4, 1) = index", "sell(6, 0, 0) = index", "sell(0, 4, 501) = index",
                "sell(0, 0, 1) = -800");
        Script.run("Promise 10", SHARES, "buy(0, 0, 500) = -50000", "sell(0, 0, 501) = argument", "sell(0, 0, 0) = argument",
                "sell(0, 0, -1) = argument", "sell(0, 0, 500) = 0", "sell(0, 0, 501) = argument", "sell(0, 0, 0) = argument",
                "buy(0, 0, 1) = -100", "sell(0, 0, 1) = 0");
        Script.run("Promise 10", "if it has failed", "buy(1, 0, 2) = -200", "sell(1, 0, 1) = -100", "fail(1) = 0",
                "sell(1, 0, 1) = state", "sell(1, 0, 0) = argument", "sell(1, 4, 1) = index");
        String words = "or is not so many long";
        Script.run("Promise 10", words, "sell(0, 0, 1) = state", "buy(0, 0, 30) = -3000", "sell(0, 0, 31) = state",
                "sell(0, 1, 1) = state", "sell(1, 0, 1) = state", "sell(0, 0, 30) = 0", "sell(0, 0, 1) = state");
        Script.run("Promise 10", words, "offer(0, 0, 9, 0) = 9", "locate(2, 0, 9) = 0", "sellShort(0, 9) = 900",
                "sell(2, 0, 1) = state", "buy(2, 0, 9) = 0", "sell(2, 0, 1) = state", "buy(2, 0, 1) = -100",
                "sell(2, 0, 2) = state", "sell(2, 0, 1) = 0");
        Script.run("Promise 10", words, "buy(0, 0, 5) = -500", "allow(0, true) = false", "locate(1, 0, 5) = 0",
                "sellShort(0, 5) = 500", "part(0, 0) = 0", "sell(0, 0, 6) = state", "sell(0, 0, 5) = 0",
                "position(0, 0) = 0", "position(1, 0) = 0");
    }

    private static void promise11() {
        Ranges.of("Promise 11", "locate", "1", "2", "30").index("`client`: 0 to 5", 0, 5).index("`stock`: 0 to 3", 0, 3)
            .argument("`shares`: 1 to 500", 1, 500)
            .behind("offer(0, 2, 500, 0)", "offer(0, 0, 500, 0)", "offer(0, 3, 500, 0)")
            .refusedBehind().refusedBehind("offer(0, 2, 29, 0)").refusedBehind("offer(0, 2, 30, 0)", "fail(1)");
        Script.run("Promise 11", "Gives a locate.", "offer(3, 1, 40, 7) = 40", "locate(5, 1, 33) = 0", "locateOf(0, 0) = 5",
                "locateOf(0, 1) = 1", "locateOf(0, 2) = 33", "locateOf(0, 3) = 1", "position(5, 1) = 0", "count(0) = 0",
                "lenderOf(3, 1, 0) = 40", "lenderOf(3, 1, 1) = 0");
        Script.run("Promise 11", "Returns its number.", "offer(0, 0, 9, 0) = 9", "locate(0, 0, 10) = state",
                "locate(0, 0, 9) = 0", "locate(0, 0, 9) = 1", "locate(3, 0, 10) = state", "locate(3, 0, 1) = 2",
                "sellShort(1, 1) = 100", "locate(0, 0, 8) = 3", "pass(5) = 5", "locate(0, 0, 8) = 4");
        Script.run("Promise 11", NO_CLIENT_OR_STOCK, "offer(0, 0, 500, 0) = 500", "offer(0, 3, 500, 0) = 500",
                "locate(-1, 0, 1) = index", "locate(0, 0, 1) = 0", "locate(6, 0, 1) = index", "locate(5, 0, 1) = 1",
                "locate(0, -1, 1) = index", "locate(0, 4, 1) = index", "locate(0, 3, 1) = 2", "locate(6, 0, 0) = index",
                "locate(0, 4, 501) = index");
        Script.run("Promise 11", SHARES, "offer(0, 0, 500, 0) = 500", "locate(0, 0, 0) = argument", "locate(0, 0, 1) = 0",
                "offer(0, 0, 500, 0) = 1000", "locate(0, 0, 501) = argument", "locate(0, 0, 500) = 1",
                "locate(0, 3, 501) = argument", "locate(0, 3, 500) = state", "locate(0, 0, -1) = argument");
    }

    private static void locatesRefused() {
        Script.run("Promise 11", "if it has failed", "offer(0, 0, 5, 0) = 5", "locate(5, 0, 1) = 0", "fail(5) = 0",
                "locate(5, 0, 1) = state", "locate(5, 0, 0) = argument", "locate(5, 4, 1) = index", "locate(4, 0, 1) = 1",
                "locate(0, 0, 1) = 2");
        String words = "not so many can be borrowed";
        Script.run("Promise 11", words, "locate(0, 0, 1) = state", "buy(1, 0, 30) = -3000", "locate(0, 0, 1) = state",
                "allow(1, true) = false", "locate(0, 0, 31) = state", "locate(0, 0, 30) = 0", "offer(0, 0, 12, 5) = 12",
                "offer(0, 1, 99, 5) = 99", "locate(0, 0, 43) = state", "locate(0, 0, 42) = 1", "locate(1, 0, 13) = state",
                "locate(1, 0, 12) = 2", "allow(1, false) = true", "locate(0, 0, 13) = state", "locate(0, 0, 12) = 3");
        Script.run("Promise 11", words, "buy(1, 0, 30) = -3000", "allow(1, true) = false", "buy(2, 0, 500) = -50000",
                "allow(2, true) = false", "locate(0, 0, 500) = 0", "locate(2, 0, 30) = 1", "locate(2, 0, 31) = state",
                "sellShort(0, 500) = 50000", "locate(3, 0, 31) = state", "locate(3, 0, 30) = 2", "sell(1, 0, 30) = 0",
                "locate(3, 0, 1) = state", "position(0, 0) = -500", "count(2) = 0");
        Script.run("Promise 11", words, "offer(0, 0, 1, 0) = 1", "locate(0, 0, 2) = state", "locate(0, 0, 1) = 0",
                "sellShort(0, 1) = 100", "locate(1, 0, 1) = state", "buy(0, 0, 1) = 0", "locate(1, 0, 1) = 1");
        List<String> lines = new ArrayList<>();
        lines.add("offer(0, 0, 1, 0) = 1");
        for (int i = 0; i < 59; i++) {
            lines.add("locate(" + i % 6 + ", 0, 1) = " + i);
        }
        lines.addAll(List.of("locateOf(59, 0) = index", "locate(5, 0, 2) = state", "locate(5, 0, 1) = 59",
                "locate(0, 0, 1) = state", "locate(0, 0, 0) = argument", "locate(0, 4, 1) = index", "locateOf(59, 0) = 5",
                "locateOf(60, 0) = index", "sellShort(60, 1) = index", "sellShort(59, 1) = 100", "pass(2) = 2",
                "buy(5, 0, 1) = 0", "locate(0, 0, 1) = state", "offer(0, 0, 500, 0) = 501", "locate(0, 0, 1) = state"));
        Script.run("Promise 11", "or there were 60", lines.toArray(new String[0]));
        String[] sixty = new String[61];
        sixty[0] = "offer(0, 2, 30, 0)";
        for (int i = 1; i < sixty.length; i++) {
            sixty[i] = "locate(1, 2, 30)";
        }
        Ranges.of("Promise 11", "locate", "1", "2", "30").index("`client`: 0 to 5", 0, 5).index("`stock`: 0 to 3", 0, 3)
            .argument("`shares`: 1 to 500", 1, 500).refusedBehind(sixty);
    }

    private static void promise12() {
        String[] three = {"offer(0, 0, 500, 0)", "locate(0, 0, 500)", "locate(1, 0, 500)", "locate(2, 0, 500)"};
        Ranges ranges = Ranges.of("Promise 12", "sellShort", "1", "30").index("`locate`: its number", 0, 2)
            .argument("`shares`: 1 to as many as it is for", 1, 500).behind(three);
        String[][] refused = {{"sellShort(1, 1)"}, {"pass(2)"}, {"fail(1)"}, {"buy(1, 0, 1)"}, {"sellShort(0, 471)"}};
        for (String[] more : refused) {
            ranges.refusedBehind(three[0], three[1], three[2], three[3], more[0]);
        }
        Script.run("Promise 12", "Uses a locate.", "offer(0, 0, 20, 0) = 20", "locate(0, 0, 10) = 0", "locateOf(0, 3) = 1",
                "sellShort(0, 6) = 600", "locateOf(0, 3) = 0", "position(0, 0) = -6", "lenderOf(0, 0, 0) = 14",
                "loanOf(0, 0) = 0", "loanOf(0, 1) = 10", "loanOf(0, 2) = 0", "loanOf(0, 3) = 6");
        Script.run("Promise 12", "Returns the cash of its client then.", "offer(0, 0, 20, 0) = 20", "cash(3, 50) = 50",
                "locate(3, 0, 10) = 0", "price(0, 70) = 100", "sellShort(0, 6) = 470", "clientOf(3, 1) = 50",
                "price(0, 100000) = 70", "locate(2, 0, 14) = 1", "sellShort(1, 14) = 1400000");
        Script.run("Promise 12", "Throws `IndexOutOfBoundsException` if there is no such locate", "sellShort(0, 1) = index",
                "offer(0, 0, 20, 0) = 20", "sellShort(0, 1) = index", "locate(0, 0, 10) = 0", "sellShort(1, 1) = index",
                "sellShort(-1, 1) = index", "sellShort(1, 0) = index", "sellShort(-1, 11) = index", "sellShort(0, 1) = 100");
        Script.run("Promise 12", "`shares`: 1 to as many as it is for", "offer(0, 0, 20, 0) = 20", "locate(0, 0, 10) = 0",
                "locate(1, 0, 1) = 1", "sellShort(0, 11) = argument", "sellShort(0, 0) = argument",
                "sellShort(0, -1) = argument", "sellShort(0, 10) = 1000", "sellShort(0, 11) = argument",
                "sellShort(1, 2) = argument", "sellShort(1, 1) = 100", "sellShort(1, 0) = argument");
        Script.run("Promise 12", SHARES, "offer(0, 0, 500, 0) = 500", "locate(0, 0, 500) = 0", "sellShort(0, 501) = argument",
                "sellShort(0, 0) = argument", "sellShort(0, 500) = 50000");
    }

    private static void locatesUsed() {
        Script.run("Promise 12", "if it was used", "offer(0, 0, 20, 0) = 20", "locate(0, 0, 10) = 0", "locate(0, 0, 10) = 1",
                "sellShort(0, 1) = 100", "sellShort(0, 1) = state", "sellShort(0, 9) = state", "sellShort(0, 11) = argument",
                "sellShort(1, 1) = 200", "sellShort(1, 1) = state");
        Script.run("Promise 12", "holds no more", "offer(0, 0, 20, 0) = 20", "locate(2, 0, 5) = 0", "locate(3, 0, 5) = 1",
                "sellShort(0, 5) = 500", "pass(1) = 1", "locate(4, 0, 5) = 2", "locate(4, 0, 4) = 3", "sellShort(1, 5) = 500",
                "pass(1) = 2", "sellShort(2, 5) = 500", "pass(1) = 3", "sellShort(3, 4) = state", "sellShort(3, 5) = argument",
                "locate(5, 0, 5) = 4", "pass(2) = 5", "sellShort(4, 5) = state", "locate(5, 0, 5) = 5", "pass(50) = 55",
                "sellShort(5, 5) = state");
        Script.run("Promise 12", "its client has failed", "offer(0, 0, 20, 0) = 20", "locate(0, 0, 10) = 0",
                "locate(1, 0, 10) = 1", "fail(1) = 0", "sellShort(1, 1) = state", "sellShort(1, 0) = argument",
                "sellShort(1, 11) = argument", "sellShort(0, 1) = 100");
        Script.run("Promise 12", "is long", "offer(0, 0, 20, 0) = 20", "locate(0, 0, 10) = 0", "locate(0, 0, 10) = 1",
                "buy(0, 1, 5) = -500", "buy(0, 0, 1) = -600", "sellShort(0, 1) = state", "sellShort(0, 10) = state",
                "sell(0, 0, 1) = -500", "sellShort(0, 1) = -400", "position(0, 0) = -1", "sellShort(1, 1) = -300");
    }

    private static void shortSalesRefused() {
        Script.run("Promise 12", "or would be more than 500 short", "offer(0, 0, 500, 0) = 500", "offer(1, 0, 500, 0) = 500",
                "locate(0, 0, 499) = 0", "locate(0, 0, 5) = 1", "locate(0, 0, 500) = 2", "sellShort(0, 499) = 49900",
                "sellShort(1, 2) = state", "sellShort(1, 1) = 50000", "position(0, 0) = -500", "sellShort(2, 1) = state",
                "buy(0, 0, 1) = 49900", "sellShort(2, 2) = state", "sellShort(2, 1) = 50000", "position(0, 0) = -500");
        Script.run("Promise 12", "or would be more than 500 short", "offer(0, 0, 500, 0) = 500", "locate(0, 0, 500) = 0",
                "sellShort(0, 500) = 50000", "buy(0, 0, 500) = 0", "locate(0, 0, 500) = 1", "sellShort(1, 500) = 50000");
        String words = "or not so many can be borrowed";
        Script.run("Promise 12", words, "offer(0, 0, 20, 0) = 20", "locate(0, 0, 20) = 0", "locate(1, 0, 5) = 1",
                "sellShort(1, 5) = 500", "sellShort(0, 20) = state", "sellShort(0, 16) = state", "count(0) = 1",
                "lenderOf(0, 0, 0) = 15", "sellShort(0, 15) = 1500", "lenderOf(0, 0, 0) = 0");
        Script.run("Promise 12", words, "buy(0, 0, 5) = -500", "allow(0, true) = false", "offer(0, 0, 5, 0) = 5",
                "locate(1, 0, 10) = 0", "allow(0, false) = true", "sellShort(0, 6) = state", "allow(0, true) = false",
                "sell(0, 0, 1) = -400", "sellShort(0, 10) = state", "sellShort(0, 9) = 900");
        Script.run("Promise 12", words, "offer(0, 0, 1, 0) = 1", "locate(0, 0, 1) = 0", "locate(1, 0, 1) = 1",
                "sellShort(0, 1) = 100", "sellShort(1, 1) = state", "offer(1, 0, 1, 0) = 1", "sellShort(1, 1) = 100");
    }

    private static void promise13() {
        Ranges ranges = Ranges.of("Promise 13", "recall", "1", "2", "30", "5").index("`lender`: 0 to 3", 0, 3)
            .index("`stock`: 0 to 3", 0, 3).argument("`shares`: 1 to 500", 1, 500).argument("`notice`: 1 to 10: days", 1, 10)
            .behind();
        String[] forty = new String[40];
        for (int i = 0; i < forty.length; i++) {
            forty[i] = "recall(" + i % 4 + ", 0, 3, 2)";
        }
        ranges.refusedBehind(forty);
        Script.run("Promise 13", "A lender recalls shares.", "offer(0, 0, 8, 10) = 8", "locate(0, 0, 8) = 0",
                "sellShort(0, 8) = 800", "recall(0, 0, 3, 1) = 0", "lenderOf(0, 0, 1) = 8", "position(0, 0) = -8",
                "pass(1) = 1", "lenderOf(0, 0, 1) = 5", "lenderOf(0, 0, 0) = 0", "position(0, 0) = -5", "count(2) = 3",
                "clientOf(0, 0) = 485");
        List<String> lines = new ArrayList<>();
        for (int i = 0; i < 39; i++) {
            lines.add("recall(" + i % 4 + ", 0, 3, 2) = " + i);
        }
        lines.addAll(List.of("pass(1) = 1", "recall(3, 1, 500, 10) = 39", "recall(0, 0, 1, 1) = state",
                "recall(0, 0, 0, 1) = argument", "recall(4, 0, 1, 1) = index", "pass(1) = 2", "count(4) = 39",
                "recall(0, 0, 1, 1) = state", "pass(8) = 10", "count(4) = 39", "pass(1) = 11", "count(4) = 40",
                "recall(0, 0, 1, 1) = state"));
        Script.run("Promise 13", "Throws `IllegalStateException` if there were 40", lines.toArray(new String[0]));
        Script.run("Promise 13", "Returns the number of the recall.", "recall(0, 0, 1, 1) = 0", "recall(0, 0, 0, 1) = argument",
                "recall(0, 0, 500, 10) = 1", "recall(3, 3, 1, 1) = 2", "pass(20) = 20", "recall(1, 1, 1, 1) = 3");
        Script.run("Promise 13", "Throws `IndexOutOfBoundsException` if there is no such lender or stock",
                "recall(-1, 0, 1, 1) = index", "recall(0, 0, 1, 1) = 0", "recall(4, 0, 1, 1) = index",
                "recall(3, 0, 1, 1) = 1", "recall(0, -1, 1, 1) = index", "recall(0, 4, 1, 1) = index",
                "recall(0, 3, 1, 1) = 2", "recall(4, 0, 0, 1) = index", "recall(0, 4, 1, 0) = index");
        Script.run("Promise 13", "Throws `IllegalArgumentException` if shares or notice are out of range",
                "recall(0, 0, 0, 1) = argument", "recall(0, 0, 1, 1) = 0", "recall(0, 0, 501, 1) = argument",
                "recall(0, 0, 500, 1) = 1", "recall(0, 0, 1, 0) = argument", "recall(0, 0, 1, 11) = argument",
                "recall(0, 0, 1, 10) = 2", "recall(0, 0, 501, 11) = argument");
        Script.run("Promise 13", "`notice`: 1 to 10: days", "recall(0, 0, 1, 1) = 0", "recall(0, 0, 1, 10) = 1",
                "count(4) = 0", "pass(1) = 1", "count(4) = 1", "recall(0, 0, 1, 10) = 2", "pass(8) = 9", "count(4) = 1",
                "pass(1) = 10", "count(4) = 2", "pass(1) = 11", "count(4) = 3", "pass(1) = 12", "count(4) = 3");
    }

    private static void promise14() {
        Ranges.of("Promise 14", "liquidate", "1").index("`client`: 0 to 5", 0, 5)
            .behind("buy(0, 0, 1)", "buy(1, 0, 1)", "buy(5, 0, 1)").refusedBehind();
        Script.run("Promise 14", "Liquidates a client.", "buy(1, 0, 5) = -500", "buy(0, 0, 10) = -1000", "liquidate(0) = 1",
                "position(0, 0) = 0", "clientOf(0, 0) = 0", "position(1, 0) = 5", "clientOf(0, 4) = 0", "buy(0, 0, 1) = -100");
        Script.run("Promise 14", "Returns how many positions are closed.", "buy(0, 0, 1) = -100", "liquidate(0) = 1",
                "buy(0, 0, 1) = -100", "buy(0, 1, 1) = -200", "liquidate(0) = 2", "buy(0, 0, 1) = -100",
                "buy(0, 1, 1) = -200", "buy(0, 3, 1) = -300", "offer(1, 2, 1, 0) = 1", "locate(0, 2, 1) = 0",
                "sellShort(0, 1) = -200", "price(2, 300) = 100", "liquidate(0) = 4", "position(0, 0) = 0",
                "position(0, 1) = 0", "position(0, 2) = 0", "position(0, 3) = 0", "clientOf(0, 0) = -200",
                "clientOf(0, 3) = 1", "liquidate(0) = 0", "cash(0, 200) = 0", "liquidate(0) = state");
        Script.run("Promise 14", "Throws `IndexOutOfBoundsException` if there is no such client", "liquidate(-1) = index",
                "liquidate(6) = index", "buy(0, 0, 1) = -100", "buy(5, 0, 1) = -100", "liquidate(0) = 1", "liquidate(5) = 1");
        String words = "Throws `IllegalStateException` if it is not called";
        Script.run("Promise 14", words, "liquidate(0) = state", "cash(0, 600) = 600", "buy(0, 0, 10) = -400",
                "clientOf(0, 1) = 600", "clientOf(0, 2) = 600", "liquidate(0) = state", "margin(0, 51) = 50",
                "liquidate(0) = 1", "liquidate(0) = state", "clientOf(0, 0) = 600");
        Script.run("Promise 14", words, "cash(0, 599) = 599", "buy(0, 0, 10) = -401", "clientOf(0, 3) = 1",
                "cash(0, 1) = -400", "liquidate(0) = state");
        Script.run("Promise 14", words, "buy(0, 0, 10) = -1000", "price(0, 90) = 100", "fail(0) = 100", "liquidate(0) = state");
    }

    private static void promise15() {
        Ranges.of("Promise 15", "fail", "1").index("`client`: 0 to 5", 0, 5).behind().refusedBehind("fail(1)");
        Script.run("Promise 15", "A client fails.", "clientOf(0, 4) = 0", "fail(0) = 0", "clientOf(0, 4) = 1",
                "clientOf(1, 4) = 0", "fail(5) = 0", "clientOf(5, 4) = 1");
        Script.run("Promise 15", "Returns what is lost by the broker.", "cash(0, 5000) = 5000", "buy(0, 0, 10) = 4000",
                "fail(0) = 0", "clientOf(0, 0) = 5000", "buy(1, 0, 10) = -1000", "price(0, 33) = 100", "fail(1) = 670",
                "count(3) = 670", "clientOf(1, 0) = 0", "buy(2, 0, 10) = -330", "price(0, 32) = 33", "fail(2) = 10",
                "count(3) = 680");
        Script.run("Promise 15", "Throws `IndexOutOfBoundsException` if there is no such client", "fail(-1) = index",
                "fail(0) = 0", "fail(6) = index", "fail(5) = 0");
        Script.run("Promise 15", "Throws `IllegalStateException` if it has failed", "fail(0) = 0", "fail(0) = state",
                "fail(1) = 0", "fail(1) = state", "pass(50) = 50", "fail(1) = state", "fail(-1) = index");
    }
}
