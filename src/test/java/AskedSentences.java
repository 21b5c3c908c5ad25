import java.util.ArrayList;
import java.util.List;

/** The sentences of promises 16 to 25: what is asked. */
final class AskedSentences {
    private static final String NO_CLIENT = "Throws `IndexOutOfBoundsException` if there is no such client";
    private static final String WHAT = "Throws `IllegalArgumentException` if what is out of range";

    private AskedSentences() {
    }

    static void all() {
        promise16();
        promises17To19();
        promise18();
        promise19();
        promise20();
        promise21();
        promise22();
        promise23();
        promise24();
        promise25();
    }

    private static void promise16() {
        Script.run("Promise 16", "Returns the day.", "day() = 0", "pass(7) = 7", "day() = 7", "pass(50) = 57",
                "day() = 57", "pass(51) = argument", "day() = 57", "day() = 57");
    }

    private static void promises17To19() {
        String[] methods = {"position", "part", "partAnew"};
        for (int i = 0; i < methods.length; i++) {
            String section = "Promise " + (17 + i);
            Ranges.of(section, methods[i], "1", "2").index("`client`: 0 to 5", 0, 5).index("`stock`: 0 to 3", 0, 3)
                .behind().behind("buy(1, 2, 500)", "allow(1, true)", "locate(3, 2, 9)", "sellShort(0, 9)");
            List<String> lines = new ArrayList<>();
            for (String place : new String[] {"(-1, 0)", "(6, 0)", "(0, -1)", "(0, 4)", "(6, 4)", "(-1, -1)"}) {
                lines.add(methods[i] + place + " = index");
            }
            for (String place : new String[] {"(0, 0)", "(5, 0)", "(0, 3)", "(5, 3)"}) {
                lines.add(methods[i] + place + " = 0");
            }
            Script.run(section, NO_CLIENT + " or stock", lines.toArray(new String[0]));
        }
        Script.run("Promise 17", "Returns a position.", "buy(0, 3, 40) = -4000", "position(0, 3) = 40", "position(0, 2) = 0",
                "position(1, 3) = 0", "sell(0, 3, 40) = 0", "position(0, 3) = 0");
        Script.run("Promise 17", "Returns the shares; below 0 short.", "offer(0, 1, 500, 0) = 500", "buy(4, 1, 500) = -50000",
                "locate(5, 1, 500) = 0", "sellShort(0, 500) = 50000", "position(5, 1) = -500", "position(4, 1) = 500",
                "buy(5, 1, 499) = 100", "position(5, 1) = -1", "buy(5, 1, 1) = 0", "position(5, 1) = 0",
                "buy(5, 1, 1) = -100", "position(5, 1) = 1");
    }

    private static void promise18() {
        Script.run("Promise 18", "Returns how many shares of a client are in the box, and would have a vote.",
                "part(0, 3) = 0", "buy(0, 3, 40) = -4000", "part(0, 3) = 40", "buy(5, 3, 8) = -800", "allow(0, true) = false",
                "part(0, 3) = 40", "locate(2, 3, 39) = 0", "part(0, 3) = 40", "sellShort(0, 39) = 3900", "part(0, 3) = 1",
                "part(2, 3) = 0", "part(5, 3) = 8", "part(0, 2) = 0", "locate(1, 3, 1) = 1", "sellShort(1, 1) = 100",
                "part(0, 3) = 0", "position(0, 3) = 40", "allow(0, false) = true", "part(0, 3) = 0", "buy(2, 3, 10) = 2900",
                "part(0, 3) = 10", "part(2, 3) = 0", "buy(2, 3, 31) = -200", "part(0, 3) = 39", "part(2, 3) = 2",
                "sell(0, 3, 40) = 0", "part(0, 3) = 0", "position(1, 3) = 0");
    }

    private static void promise19() {
        String words = "Returns the same, found with a name on each share, passed by hand from the first day on.";
        Script.run("Promise 19", words, "partAnew(0, 3) = 0", "buy(0, 3, 40) = -4000", "partAnew(0, 3) = 40",
                "buy(5, 3, 8) = -800", "allow(0, true) = false", "locate(2, 3, 15) = 0", "sellShort(0, 15) = 1500",
                "partAnew(0, 3) = 25", "partAnew(2, 3) = 0", "partAnew(5, 3) = 8", "partAnew(0, 2) = 0",
                "buy(2, 3, 10) = 500", "partAnew(0, 3) = 35", "part(0, 3) = 35", "sell(0, 3, 36) = -400", "part(0, 3) = 0",
                "partAnew(0, 3) = 0", "position(0, 3) = 4", "position(2, 3) = -4", "allow(5, true) = false",
                "sell(0, 3, 4) = 0", "part(5, 3) = 4", "partAnew(5, 3) = 4", "position(2, 3) = -4");
        Script.run("Promise 19", words, "buy(0, 0, 3) = -300", "buy(1, 0, 2) = -200", "allow(0, true) = false",
                "allow(1, true) = false", "locate(2, 0, 4) = 0", "sellShort(0, 4) = 400", "partAnew(0, 0) = 0",
                "partAnew(1, 0) = 1", "buy(2, 0, 6) = -200", "partAnew(0, 0) = 3", "partAnew(1, 0) = 2", "partAnew(2, 0) = 2",
                "sell(0, 0, 3) = 0", "partAnew(0, 0) = 0", "partAnew(2, 0) = 2", "allow(2, true) = false",
                "locate(0, 0, 4) = 1", "sellShort(1, 3) = 300", "partAnew(1, 0) = 0", "partAnew(2, 0) = 1",
                "part(2, 0) = 1", "fail(2) = 0", "partAnew(2, 0) = 0", "partAnew(1, 0) = 0", "position(0, 0) = -2");
        List<String> lines = new ArrayList<>();
        for (int client = 0; client < 6; client++) {
            lines.add("buy(" + client + ", 1, 500) = -50000");
        }
        for (int client = 0; client < 6; client++) {
            lines.add("part(" + client + ", 1) = 500");
            lines.add("partAnew(" + client + ", 1) = 500");
        }
        lines.addAll(List.of("stockOf(1, 1) = 3000", "stockOf(1, 3) = 3000", "sell(5, 1, 500) = 0",
                "partAnew(5, 1) = 0", "partAnew(0, 1) = 500", "buy(5, 1, 1) = -100", "partAnew(5, 1) = 1",
                "sell(5, 1, 1) = 0", "allow(4, true) = false", "locate(5, 1, 500) = 0", "sellShort(0, 500) = 50000",
                "partAnew(4, 1) = 0", "partAnew(5, 1) = 0", "sell(4, 1, 1) = -49900", "partAnew(4, 1) = 0", "part(4, 1) = 0",
                "position(4, 1) = 499", "buy(5, 1, 499) = -5", "partAnew(4, 1) = 499", "buy(5, 1, 500) = -50005",
                "partAnew(5, 1) = 500", "buy(4, 1, 1) = -50000", "stockOf(1, 3) = 3000", "partAnew(4, 1) = 500"));
        Script.run("Promise 19", words, lines.toArray(new String[0]));
    }

    private static void promise20() {
        Ranges.of("Promise 20", "clientOf", "1", "2").index("`client`: 0 to 5", 0, 5).argument("`what`: 0 its cash", 0, 4)
            .behind();
        Script.run("Promise 20", "Tells of a client.", "price(0, 3) = 100", "buy(0, 0, 3) = -9", "clientOf(0, 0) = -9",
                "clientOf(0, 1) = 0", "clientOf(0, 2) = 4", "clientOf(0, 3) = 1", "clientOf(0, 4) = 0", "clientOf(1, 0) = 0",
                "clientOf(1, 2) = 0", "clientOf(1, 3) = 0");
        Script.run("Promise 20", "0 its cash, 1 its equity, 2 its need", "buy(0, 0, 3) = -300", "price(0, 119) = 100",
                "clientOf(0, 0) = -300", "clientOf(0, 1) = 57", "clientOf(0, 2) = 213", "cash(0, 1000) = 700",
                "clientOf(0, 0) = 700", "clientOf(0, 1) = 1057");
        Script.run("Promise 20", "3 whether it is called, 1 or 0", "cash(0, 600) = 600", "buy(0, 0, 10) = -400",
                "clientOf(0, 3) = 0", "buy(1, 0, 10) = -1000", "clientOf(1, 3) = 1", "cash(1, 599) = -401",
                "clientOf(1, 3) = 1", "cash(1, 1) = -400", "clientOf(1, 3) = 0");
        Script.run("Promise 20", "4 whether it has failed, 1 or 0", "clientOf(0, 4) = 0", "buy(0, 0, 1) = -100",
                "liquidate(0) = 1", "clientOf(0, 4) = 0", "fail(0) = 0", "clientOf(0, 4) = 1", "clientOf(5, 4) = 0");
        Script.run("Promise 20", NO_CLIENT, "clientOf(-1, 0) = index", "clientOf(0, 0) = 0", "clientOf(6, 0) = index",
                "clientOf(5, 0) = 0", "clientOf(6, 5) = index", "clientOf(-1, -1) = index");
        Script.run("Promise 20", WHAT, "clientOf(0, -1) = argument", "clientOf(0, 0) = 0", "clientOf(0, 5) = argument",
                "clientOf(0, 4) = 0");
    }

    private static void promise21() {
        Ranges.of("Promise 21", "lenderOf", "1", "2", "3").index("`lender`: 0 to 3", 0, 3).index("`stock`: 0 to 3", 0, 3)
            .argument("`what`: 0 what is in the pool", 0, 3).behind();
        Script.run("Promise 21", "Tells of a lender.", "offer(2, 1, 40, 3600) = 40", "offer(2, 0, 10, 0) = 10",
                "locate(0, 1, 15) = 0", "sellShort(0, 15) = 1500", "lenderOf(2, 1, 0) = 25", "lenderOf(2, 1, 1) = 15",
                "lenderOf(2, 1, 2) = 3600", "lenderOf(2, 1, 3) = 0", "lenderOf(2, 0, 0) = 10", "lenderOf(2, 0, 1) = 0",
                "lenderOf(2, 0, 2) = 0", "lenderOf(1, 1, 0) = 0", "lenderOf(3, 1, 2) = 0");
        Script.run("Promise 21", "0 what is in the pool, 1 what it has lent", "offer(0, 0, 9, 0) = 9", "locate(0, 0, 9) = 0",
                "lenderOf(0, 0, 0) = 9", "lenderOf(0, 0, 1) = 0", "sellShort(0, 9) = 900", "lenderOf(0, 0, 0) = 0",
                "lenderOf(0, 0, 1) = 9", "buy(0, 0, 1) = 800", "lenderOf(0, 0, 0) = 1", "lenderOf(0, 0, 1) = 8",
                "recall(0, 0, 500, 1) = 0", "pass(1) = 1", "lenderOf(0, 0, 0) = 1", "lenderOf(0, 0, 1) = 0");
        Script.run("Promise 21", "2 its fee", "lenderOf(3, 1, 2) = 0", "offer(3, 1, 0, 10000) = 0", "lenderOf(3, 1, 2) = 10000",
                "offer(3, 1, 9, 1) = 9", "lenderOf(3, 1, 2) = 1", "offer(3, 1, 9, 10001) = argument", "lenderOf(3, 1, 2) = 1",
                "lenderOf(3, 0, 2) = 0", "lenderOf(2, 1, 2) = 0", "offer(3, 1, 9, 0) = 18", "lenderOf(3, 1, 2) = 0");
        Script.run("Promise 21", "3 what it got in all, fees and dividends of all stocks", "offer(3, 0, 100, 3600) = 100",
                "offer(3, 2, 50, 3600) = 50", "locate(0, 0, 100) = 0", "sellShort(0, 100) = 10000", "locate(0, 2, 50) = 1",
                "sellShort(1, 50) = 15000", "pass(1) = 1", "lenderOf(3, 0, 3) = 15", "lenderOf(3, 1, 3) = 15",
                "dividend(0, 2) = 200", "dividend(2, 3) = 150", "lenderOf(3, 3, 3) = 365", "lenderOf(2, 0, 3) = 0",
                "buy(0, 0, 100) = 4635", "lenderOf(3, 0, 3) = 365");
        Script.run("Promise 21", "Throws `IndexOutOfBoundsException` if there is no such lender or stock",
                "lenderOf(-1, 0, 0) = index", "lenderOf(0, 0, 0) = 0", "lenderOf(4, 0, 0) = index", "lenderOf(3, 0, 0) = 0",
                "lenderOf(0, -1, 0) = index", "lenderOf(0, 4, 0) = index", "lenderOf(0, 3, 0) = 0", "lenderOf(0, 4, 4) = index",
                "lenderOf(4, 0, -1) = index");
        Script.run("Promise 21", WHAT, "lenderOf(0, 0, -1) = argument", "lenderOf(0, 0, 0) = 0", "lenderOf(0, 0, 4) = argument",
                "lenderOf(0, 0, 3) = 0");
    }

    private static void promise22() {
        Ranges.of("Promise 22", "stockOf", "1", "2").index("`stock`: 0 to 3", 0, 3).argument("`what`: 0 its price", 0, 6)
            .behind();
        Script.run("Promise 22", "Tells of a stock.", "price(3, 9) = 100", "margin(3, 20) = 50", "stockOf(3, 0) = 9",
                "stockOf(3, 6) = 20", "stockOf(2, 0) = 100", "stockOf(2, 6) = 50");
        Script.run("Promise 22", "1 how many shares clients are long, 2 how many they are short, 3 how many are in the box, "
                + "4 how many are lent from the box, 5 how many are lent by lenders",
                "buy(0, 2, 20) = -2000", "buy(1, 2, 30) = -3000", "allow(0, true) = false", "offer(0, 2, 9, 1) = 9",
                "offer(1, 2, 2, 2) = 2", "stockOf(2, 1) = 50", "stockOf(2, 2) = 0", "stockOf(2, 3) = 50", "stockOf(2, 4) = 0",
                "stockOf(2, 5) = 0", "locate(3, 2, 25) = 0", "locate(4, 2, 5) = 1", "sellShort(0, 25) = 2500",
                "sellShort(1, 5) = 500", "stockOf(2, 0) = 100", "stockOf(2, 1) = 50", "stockOf(2, 2) = 30",
                "stockOf(2, 3) = 30", "stockOf(2, 4) = 20", "stockOf(2, 5) = 10", "stockOf(2, 6) = 50",
                "stockOf(1, 1) = 0", "offer(0, 3, 4, 0) = 4", "locate(0, 3, 3) = 2", "sellShort(2, 3) = -1700",
                "stockOf(3, 2) = 3", "stockOf(3, 1) = 0", "stockOf(3, 3) = 0", "stockOf(3, 4) = 0", "stockOf(3, 5) = 3");
        List<String> lines = new ArrayList<>();
        for (int lender = 0; lender < 4; lender++) {
            lines.add("offer(" + lender + ", 0, 500, 0) = 500");
        }
        for (int client = 0; client < 4; client++) {
            lines.add("locate(" + client + ", 0, 500) = " + client);
            lines.add("sellShort(" + client + ", 500) = 50000");
        }
        lines.addAll(List.of("stockOf(0, 2) = 2000", "stockOf(0, 5) = 2000", "stockOf(0, 3) = 0", "buy(4, 0, 500) = -50000",
                "buy(5, 0, 500) = -50000", "stockOf(0, 1) = 1000", "stockOf(0, 3) = 1000", "locate(0, 0, 1) = state"));
        Script.run("Promise 22", "2 how many they are short", lines.toArray(new String[0]));
        Script.run("Promise 22", "6 its margin", "margin(1, 10) = 50", "stockOf(1, 6) = 10", "margin(1, 100) = 10",
                "stockOf(1, 6) = 100", "margin(1, 101) = argument", "stockOf(1, 6) = 100", "stockOf(0, 6) = 50");
        Script.run("Promise 22", "Throws `IndexOutOfBoundsException` if there is no such stock", "stockOf(-1, 0) = index",
                "stockOf(0, 0) = 100", "stockOf(4, 0) = index", "stockOf(3, 0) = 100", "stockOf(4, 7) = index");
        Script.run("Promise 22", WHAT, "stockOf(0, -1) = argument", "stockOf(0, 0) = 100", "stockOf(0, 7) = argument",
                "stockOf(0, 6) = 50");
    }

    private static void promise23() {
        Ranges.of("Promise 23", "loanOf", "1", "3").index("`loan`: its number", 0, 1).argument("`what`: 0 its stock", 0, 4)
            .behind("offer(0, 1, 9, 8)", "offer(1, 1, 9, 8)", "locate(4, 1, 18)", "sellShort(0, 18)");
        Script.run("Promise 23", "Tells of a loan.", "buy(1, 3, 4) = -400", "allow(1, true) = false", "offer(3, 3, 6, 77) = 6",
                "locate(5, 3, 10) = 0", "sellShort(0, 8) = 800", "loanOf(0, 0) = 3", "loanOf(0, 1) = 1", "loanOf(0, 2) = 5",
                "loanOf(0, 3) = 4", "loanOf(0, 4) = 0", "loanOf(1, 0) = 3", "loanOf(1, 1) = 13", "loanOf(1, 2) = 5",
                "loanOf(1, 3) = 4", "loanOf(1, 4) = 77");
        Script.run("Promise 23", "1 from whom: a client, or 10 and a lender, together", "buy(0, 0, 1) = -100",
                "buy(5, 0, 1) = -100", "allow(0, true) = false", "allow(5, true) = false", "offer(0, 0, 1, 0) = 1",
                "offer(3, 0, 1, 0) = 1", "locate(2, 0, 4) = 0", "sellShort(0, 4) = 400", "loanOf(0, 1) = 0",
                "loanOf(1, 1) = 5", "loanOf(2, 1) = 10", "loanOf(3, 1) = 13", "loanOf(3, 2) = 2");
        Script.run("Promise 23", "2 to whom", "offer(0, 0, 2, 0) = 2", "locate(0, 0, 1) = 0", "locate(5, 0, 1) = 1",
                "sellShort(0, 1) = 100", "sellShort(1, 1) = 100", "loanOf(0, 2) = 0", "loanOf(1, 2) = 5", "offer(1, 0, 1, 0) = 1",
                "recall(0, 0, 1, 1) = 0", "pass(1) = 1", "loanOf(1, 2) = 5", "loanOf(2, 2) = 5", "loanOf(2, 1) = 11");
        Script.run("Promise 23", "3 how many shares it is for still, 4 its fee", "offer(0, 0, 5, 10000) = 5",
                "locate(0, 0, 5) = 0", "sellShort(0, 5) = 500", "loanOf(0, 3) = 5", "buy(0, 0, 4) = 100", "loanOf(0, 3) = 1",
                "buy(0, 0, 1) = 0", "loanOf(0, 3) = 0", "loanOf(0, 0) = 0", "loanOf(0, 1) = 10", "loanOf(0, 2) = 0",
                "loanOf(0, 4) = 10000", "buy(0, 0, 1) = -100", "loanOf(0, 3) = 0");
        Script.run("Promise 23", "Throws `IndexOutOfBoundsException` if there is no such loan", "loanOf(0, 0) = index",
                "loanOf(0, 9) = index", "offer(0, 2, 5, 0) = 5", "locate(0, 2, 5) = 0", "loanOf(0, 0) = index",
                "sellShort(0, 5) = 500", "loanOf(0, 0) = 2", "loanOf(1, 0) = index", "loanOf(-1, 0) = index",
                "loanOf(1, 5) = index", "loanOf(-1, -1) = index");
        Script.run("Promise 23", WHAT, "offer(0, 2, 5, 7) = 5", "locate(0, 2, 5) = 0", "sellShort(0, 5) = 500",
                "loanOf(0, -1) = argument", "loanOf(0, 0) = 2", "loanOf(0, 5) = argument", "loanOf(0, 4) = 7");
    }

    private static void promise24() {
        Ranges.of("Promise 24", "locateOf", "1", "3").index("`locate`: its number", 0, 1)
            .argument("`what`: 0 its client", 0, 3).behind("offer(0, 1, 9, 8)", "locate(4, 1, 9)", "locate(5, 1, 9)");
        Script.run("Promise 24", "Tells of a locate.", "offer(0, 1, 9, 0) = 9", "locate(4, 1, 8) = 0", "locate(2, 1, 5) = 1",
                "locateOf(0, 0) = 4", "locateOf(0, 1) = 1", "locateOf(0, 2) = 8", "locateOf(0, 3) = 1", "locateOf(1, 0) = 2",
                "locateOf(1, 1) = 1", "locateOf(1, 2) = 5", "sellShort(0, 3) = 300", "locateOf(0, 2) = 8",
                "locateOf(0, 0) = 4", "offer(1, 3, 2, 0) = 2", "locate(1, 3, 2) = 2", "locateOf(2, 1) = 3", "locateOf(2, 2) = 2");
        Script.run("Promise 24", "0 its client, 1 its stock, 2 how many shares", "offer(0, 0, 500, 0) = 500",
                "offer(0, 3, 1, 0) = 1", "locate(0, 0, 500) = 0", "locate(5, 3, 1) = 1", "locateOf(0, 0) = 0", "locateOf(0, 1) = 0",
                "locateOf(0, 2) = 500", "locateOf(1, 0) = 5", "locateOf(1, 1) = 3", "locateOf(1, 2) = 1", "sellShort(0, 1) = 100",
                "pass(2) = 2", "locateOf(0, 2) = 500", "locateOf(1, 2) = 1");
        String words = "3 whether it can be used by its day, and was not used, 1 or 0";
        Script.run("Promise 24", words, "offer(0, 1, 9, 0) = 9", "locate(4, 1, 8) = 0", "locateOf(0, 3) = 1",
                "sellShort(0, 3) = 300", "locateOf(0, 3) = 0", "locate(4, 1, 6) = 1", "pass(1) = 1", "locateOf(1, 3) = 1",
                "locate(4, 1, 6) = 2", "pass(1) = 2", "locateOf(1, 3) = 0", "locateOf(2, 3) = 1", "locateOf(0, 3) = 0",
                "sellShort(2, 6) = 900", "locateOf(2, 3) = 0", "locateOf(2, 2) = 6");
        Script.run("Promise 24", words, "offer(0, 1, 9, 0) = 9", "locate(3, 1, 1) = 0", "locate(2, 1, 9) = 1",
                "buy(3, 1, 1) = -100", "locateOf(0, 3) = 1", "fail(3) = 0", "locateOf(0, 3) = 1", "locate(1, 1, 1) = 2",
                "sellShort(2, 1) = 100", "locateOf(1, 3) = 1", "sellShort(1, 9) = state", "locateOf(1, 3) = 1",
                "pass(50) = 50", "locateOf(0, 3) = 0", "locateOf(1, 3) = 0");
        Script.run("Promise 24", "Throws `IndexOutOfBoundsException` if there is no such locate", "locateOf(0, 0) = index",
                "locateOf(0, 7) = index", "offer(0, 2, 5, 0) = 5", "locateOf(0, 0) = index", "locate(3, 2, 5) = 0",
                "locateOf(0, 0) = 3", "locateOf(1, 0) = index", "locateOf(-1, 0) = index", "locateOf(1, 4) = index",
                "locateOf(-1, -1) = index");
        Script.run("Promise 24", WHAT, "offer(0, 2, 5, 0) = 5", "locate(3, 2, 5) = 0", "locateOf(0, -1) = argument",
                "locateOf(0, 0) = 3", "locateOf(0, 4) = argument", "locateOf(0, 3) = 1");
    }

    private static void promise25() {
        Ranges.of("Promise 25", "count", "1").argument("`what`: 0 loans", 0, 4).behind();
        Script.run("Promise 25", "Counts something.", "buy(0, 0, 6) = -600", "allow(0, true) = false", "offer(0, 0, 6, 1) = 6",
                "locate(1, 0, 12) = 0", "sellShort(0, 12) = 1200", "count(0) = 2", "count(1) = 2", "count(2) = 0",
                "count(3) = 0", "count(4) = 0", "recall(0, 0, 2, 1) = 0", "pass(1) = 1", "count(0) = 2", "count(1) = 2",
                "count(2) = 2", "count(3) = 0", "count(4) = 1");
        Script.run("Promise 25", "0 loans, 1 those that are not over", "buy(0, 0, 6) = -600", "allow(0, true) = false",
                "offer(0, 0, 6, 1) = 6", "locate(1, 0, 12) = 0", "count(0) = 0", "count(1) = 0", "sellShort(0, 12) = 1200",
                "buy(1, 0, 5) = 700", "count(1) = 2", "buy(1, 0, 1) = 600", "count(0) = 2", "count(1) = 1",
                "sell(0, 0, 4) = -200", "count(0) = 3", "count(1) = 2", "buy(1, 0, 6) = 0", "count(0) = 3", "count(1) = 0");
        Script.run("Promise 25", "2 how many shares were bought in", "buy(0, 0, 6) = -600", "allow(0, true) = false",
                "locate(1, 0, 6) = 0", "sellShort(0, 6) = 600", "sell(0, 0, 1) = -500", "count(2) = 1", "offer(0, 0, 2, 0) = 2",
                "sell(0, 0, 2) = -300", "count(2) = 1", "sell(0, 0, 3) = 0", "count(2) = 4", "buy(1, 0, 2) = -20",
                "count(2) = 4");
        Script.run("Promise 25", "3 what the broker lost", "buy(0, 0, 1) = -100", "price(0, 1) = 100", "liquidate(0) = 1",
                "clientOf(0, 0) = -99", "count(3) = 0", "fail(0) = 99", "count(3) = 99", "fail(1) = 0", "count(3) = 99",
                "buy(2, 0, 1) = -1", "buy(2, 1, 1) = -101", "price(1, 1) = 100", "fail(2) = 99", "count(3) = 198");
        Script.run("Promise 25", "4 recalls that were met", "recall(0, 0, 3, 1) = 0", "recall(0, 0, 3, 2) = 1",
                "count(4) = 0", "pass(1) = 1", "count(4) = 1", "pass(1) = 2", "count(4) = 2", "pass(1) = 3", "count(4) = 2");
        Script.run("Promise 25", WHAT, "count(-1) = argument", "count(0) = 0", "count(5) = argument", "count(4) = 0");
    }
}
