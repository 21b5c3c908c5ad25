import java.util.ArrayList;
import java.util.List;

/** The sentences of promises 1 to 8: a new object, and what it is told. */
final class ToldSentences {
    private ToldSentences() {
    }

    static void all() {
        promise1();
        promise2();
        promise3();
        promise4();
        promise5();
        promise6();
        promise7();
        promise8();
    }

    private static void promise1() {
        List<String> lines = new ArrayList<>();
        lines.add("day() = 0");
        for (int what = 0; what < 5; what++) {
            lines.add("count(" + what + ") = 0");
        }
        int[] ofStock = {100, 0, 0, 0, 0, 0, 50};
        for (int stock = 0; stock < 4; stock++) {
            for (int what = 0; what < 7; what++) {
                lines.add("stockOf(" + stock + "," + what + ") = " + ofStock[what]);
            }
            for (int client = 0; client < 6; client++) {
                lines.add("position(" + client + "," + stock + ") = 0");
                lines.add("part(" + client + "," + stock + ") = 0");
                lines.add("partAnew(" + client + "," + stock + ") = 0");
            }
            for (int lender = 0; lender < 4; lender++) {
                for (int what = 0; what < 4; what++) {
                    lines.add("lenderOf(" + lender + "," + stock + "," + what + ") = 0");
                }
            }
        }
        lines.add("loanOf(0, 0) = index");
        lines.add("locateOf(0, 0) = index");
        lines.add("sellShort(0, 1) = index");
        Script.run("Promise 1", "No shares, loans and locates; the day 0.", lines.toArray(new String[0]));
        Script.run("Promise 1", "No shares", "sell(0, 0, 1) = state", "locate(0, 0, 1) = state", "dividend(0, 5) = 0");
        Script.run("Promise 1", "loans and locates", "offer(0, 0, 1, 0) = 1", "locate(0, 0, 1) = 0", "locateOf(0, 0) = 0",
                "loanOf(0, 0) = index", "sellShort(0, 1) = 100", "loanOf(0, 0) = 0", "loanOf(1, 0) = index");
        twoObjectsAreApart();
    }

    private static void twoObjectsAreApart() {
        Document.name("Promise 1", "No shares, loans and locates; the day 0.");
        Primeborrow first = new Primeborrow();
        String before = Script.told(first, 0);
        for (String call : new String[] {"price(0, 5)", "margin(1, 70)", "buy(0, 0, 9)", "allow(0, true)",
            "offer(2, 3, 7, 8)", "locate(1, 0, 4)", "sellShort(0, 4)", "recall(0, 0, 1, 1)", "pass(3)", "fail(5)"}) {
            Script.answer(first, call);
        }
        Script.expectAlike("Promise 1: a second object", Script.told(new Primeborrow(), 0), before);
    }

    private static void promise2() {
        Ranges.of("Promise 2", "price", "1", "250").index("`stock`: 0 to 3", 0, 3)
            .argument("`cents`: 1 to 100000", 1, 100000).behind();
        Script.run("Promise 2", "Tells the price of a stock.",
                "price(3, 7) = 100", "stockOf(3, 0) = 7", "stockOf(2, 0) = 100", "buy(0, 3, 4) = -28",
                "price(3, 9) = 7", "sell(0, 3, 4) = 8");
        Script.run("Promise 2", "Returns what it was.",
                "price(0, 250) = 100", "price(0, 250) = 250", "price(0, 100000) = 250", "price(0, 1) = 100000",
                "price(0, 2) = 1", "price(1, 5) = 100");
        Script.run("Promise 2", "Throws `IllegalArgumentException` if cents are out of range",
                "price(0, 0) = argument", "price(0, 1) = 100", "price(0, 100001) = argument", "price(0, 100000) = 1",
                "price(0, -1) = argument", "stockOf(0, 0) = 100000");
        Script.run("Promise 2", "Throws `IndexOutOfBoundsException` if there is no such stock",
                "price(-1, 5) = index", "price(0, 5) = 100", "price(4, 5) = index", "price(3, 5) = 100",
                "price(4, 0) = index", "price(-1, 100001) = index", "price(4, 100001) = index");
    }

    private static void promise3() {
        Ranges.of("Promise 3", "margin", "1", "60").index("`stock`: 0 to 3", 0, 3)
            .argument("`hundredths`: 10 to 100", 10, 100).behind();
        Script.run("Promise 3", "Tells the margin of a stock.",
                "buy(0, 0, 10) = -1000", "clientOf(0, 2) = 600", "margin(0, 100) = 50", "clientOf(0, 2) = 1100",
                "margin(0, 10) = 100", "clientOf(0, 2) = 200", "stockOf(0, 6) = 10", "stockOf(1, 6) = 50");
        Script.run("Promise 3", "Returns what it was.",
                "margin(0, 10) = 50", "margin(0, 10) = 10", "margin(0, 100) = 10", "margin(0, 99) = 100",
                "margin(3, 33) = 50");
        Script.run("Promise 3", "Throws `IllegalArgumentException` if hundredths are out of range",
                "margin(0, 9) = argument", "margin(0, 10) = 50", "margin(0, 101) = argument", "margin(0, 100) = 10",
                "margin(0, -50) = argument", "margin(0, 0) = argument", "stockOf(0, 6) = 100");
        Script.run("Promise 3", "Throws `IndexOutOfBoundsException` if there is no such stock",
                "margin(-1, 50) = index", "margin(0, 50) = 50", "margin(4, 50) = index", "margin(3, 50) = 50",
                "margin(4, 9) = index", "margin(-1, 101) = index");
    }

    private static void promise4() {
        Ranges.of("Promise 4", "cash", "1", "500").index("`client`: 0 to 5", 0, 5)
            .argument("`cents`: -100000000 to 100000000", -100000000, 100000000).behind("cash(1, 100000000)")
            .refusedBehind("fail(1)");
        Ranges.of("Promise 4", "cash", "1", "-1").index("`client`: 0 to 5", 0, 5)
            .argument("`cents`: -100000000 to 100000000", -100000000, 100000000).refusedBehind();
        Script.run("Promise 4", "A client pays in, or takes out.",
                "cash(0, 5000) = 5000", "cash(0, 0) = 5000", "cash(0, -4999) = 1", "clientOf(0, 0) = 1",
                "clientOf(1, 0) = 0");
        Script.run("Promise 4", "Returns its cash then.",
                "buy(0, 0, 10) = -1000", "cash(0, 600) = -400", "clientOf(0, 1) = 600", "cash(0, 0) = -400");
        Script.run("Promise 4", "`cents`: -100000000 to 100000000",
                "cash(5, 100000000) = 100000000", "cash(5, 100000000) = 200000000", "cash(5, 100000001) = argument",
                "cash(5, -100000001) = argument", "cash(5, -100000000) = 100000000", "cash(5, -100000000) = 0",
                "cash(5, -100000000) = state", "cash(5, -100000001) = argument");
        List<String> lines = new ArrayList<>();
        for (int i = 1; i <= 30; i++) {
            lines.add("cash(0, 100000000) = " + i * 100000000L);
        }
        lines.add("clientOf(0, 0) = 3000000000");
        lines.add("clientOf(0, 1) = 3000000000");
        Script.run("Promise 4", "`cents`: -100000000 to 100000000", lines.toArray(new String[0]));
        Script.run("Promise 4", "Throws `IndexOutOfBoundsException` if there is no such client",
                "cash(-1, 5) = index", "cash(0, 5) = 5", "cash(6, 5) = index", "cash(5, 5) = 5",
                "cash(6, 100000001) = index", "cash(-1, -100000001) = index", "cash(6, -1) = index");
        Script.run("Promise 4", "if it has failed",
                "cash(3, 5) = 5", "fail(3) = 0", "cash(3, 5) = state", "cash(3, 0) = state", "cash(3, -5) = state",
                "cash(3, 100000001) = argument", "cash(2, 5) = 5", "cash(4, 5) = 5");
        takingOut();
    }

    private static void takingOut() {
        String words = "or its equity would be less than its need, and less than before";
        Script.run("Promise 4", words, "cash(0, 5000) = 5000", "cash(0, -5001) = state", "cash(0, -4999) = 1",
                "cash(0, -1) = 0", "cash(0, -1) = state", "cash(0, 0) = 0");
        Script.run("Promise 4", words, "cash(1, 5000) = 5000", "buy(1, 0, 100) = -5000", "clientOf(1, 1) = 5000",
                "clientOf(1, 2) = 6000", "cash(1, -1) = state", "cash(1, 0) = -5000", "cash(1, 999) = -4001",
                "clientOf(1, 3) = 1", "cash(1, -1) = state", "cash(1, 2) = -3999", "clientOf(1, 3) = 0",
                "cash(1, -2) = state", "cash(1, -1) = -4000", "cash(1, -1) = state");
        Script.run("Promise 4", words, "offer(0, 0, 100, 0) = 100", "locate(2, 0, 100) = 0", "sellShort(0, 100) = 10000",
                "cash(2, -1) = state", "cash(2, 7000) = 17000", "cash(2, -1001) = state", "cash(2, -1000) = 16000",
                "cash(2, -1) = state");
        Script.run("Promise 4", words, "buy(0, 0, 10) = -1000", "price(0, 1) = 100", "clientOf(0, 1) = -990",
                "cash(0, 1) = -999", "cash(0, 0) = -999", "cash(0, -1) = state", "cash(0, 995) = -4",
                "clientOf(0, 1) = 6", "clientOf(0, 2) = 6", "cash(0, -1) = state");
    }

    private static void promise5() {
        Ranges.of("Promise 5", "allow", "1", "true").index("`client`: 0 to 5", 0, 5).behind().refusedBehind("fail(1)");
        Ranges.of("Promise 5", "allow", "1", "false").index("`client`: 0 to 5", 0, 5).behind().refusedBehind("fail(1)");
        Script.run("Promise 5", "Tells whether shares of a client may be lent from now on.",
                "buy(0, 0, 10) = -1000", "locate(1, 0, 1) = state", "allow(0, true) = false", "locate(1, 0, 11) = state",
                "locate(1, 0, 10) = 0", "allow(0, false) = true", "sellShort(0, 1) = state", "allow(0, true) = false",
                "sellShort(0, 4) = 400", "allow(0, false) = true", "part(0, 0) = 6", "loanOf(0, 3) = 4",
                "locate(1, 0, 1) = state", "pass(1) = 1", "loanOf(0, 3) = 4", "position(1, 0) = -4");
        Script.run("Promise 5", "`may`: whether they may",
                "buy(0, 0, 1) = -100", "buy(1, 0, 1) = -100", "allow(0, false) = false", "allow(1, true) = false",
                "locate(2, 0, 2) = state", "locate(2, 0, 1) = 0", "sellShort(0, 1) = 100", "loanOf(0, 1) = 1");
        Script.run("Promise 5", "Returns whether they might.",
                "allow(0, true) = false", "allow(0, true) = true", "allow(0, false) = true", "allow(0, false) = false",
                "allow(5, false) = false", "allow(4, true) = false", "allow(4, true) = true", "allow(3, true) = false");
        Script.run("Promise 5", "Throws `IndexOutOfBoundsException` if there is no such client",
                "allow(-1, true) = index", "allow(0, true) = false", "allow(6, true) = index", "allow(5, true) = false");
        Script.run("Promise 5", "Throws `IllegalStateException` if it has failed",
                "allow(5, true) = false", "fail(5) = 0", "allow(5, true) = state", "allow(5, false) = state",
                "allow(4, false) = false", "allow(0, true) = false");
    }

    private static void promise6() {
        Ranges.of("Promise 6", "offer", "1", "2", "30", "40").index("`lender`: 0 to 3", 0, 3).index("`stock`: 0 to 3", 0, 3)
            .argument("`shares`: 0 to 500", 0, 500).argument("`fee`: 0 to 10000", 0, 10000).behind()
            .refusedBehind("offer(1, 2, 500, 0)", "offer(1, 2, 500, 0)", "offer(1, 2, 500, 0)", "offer(1, 2, 471, 0)");
        Script.run("Promise 6", "A lender puts shares into its pool, and tells its fee for loans from now on.",
                "offer(0, 0, 10, 300) = 10", "locate(0, 0, 9) = 0", "sellShort(0, 4) = 400", "offer(0, 0, 0, 900) = 6",
                "loanOf(0, 4) = 300", "locate(0, 0, 5) = 1", "sellShort(1, 5) = 900", "loanOf(1, 4) = 900",
                "loanOf(0, 4) = 300", "lenderOf(0, 0, 2) = 900");
        Script.run("Promise 6", "Returns what is in the pool then.",
                "offer(0, 0, 0, 0) = 0", "offer(0, 0, 500, 0) = 500", "offer(0, 0, 1, 0) = 501", "offer(0, 1, 3, 4) = 3",
                "offer(3, 0, 6, 2) = 6", "locate(0, 0, 300) = 0", "sellShort(0, 300) = 30000", "offer(3, 0, 1, 2) = 7",
                "offer(0, 0, 1, 2) = 202", "lenderOf(0, 1, 0) = 3", "lenderOf(3, 0, 2) = 2");
        Script.run("Promise 6", "`shares`: 0 to 500", "offer(1, 0, -1, 1) = argument", "offer(1, 0, 0, 1) = 0",
                "offer(1, 0, 501, 1) = argument", "offer(1, 0, 500, 1) = 500");
        Script.run("Promise 6", "`fee`: 0 to 10000", "offer(1, 0, 1, -1) = argument", "offer(1, 0, 1, 0) = 1",
                "offer(1, 0, 1, 10001) = argument", "offer(1, 0, 1, 10000) = 2", "lenderOf(1, 0, 2) = 10000");
        Script.run("Promise 6", "Throws `IllegalArgumentException` if shares or fee are out of range",
                "offer(0, 0, 501, -1) = argument", "offer(0, 0, -1, 10001) = argument", "offer(0, 4, -1, 1) = index",
                "offer(4, 0, 1, 10001) = index");
        Script.run("Promise 6", "Throws `IndexOutOfBoundsException` if there is no such lender or stock",
                "offer(-1, 0, 1, 1) = index", "offer(0, 0, 1, 1) = 1", "offer(4, 0, 1, 1) = index", "offer(3, 0, 1, 1) = 1",
                "offer(0, -1, 1, 1) = index", "offer(0, 4, 1, 1) = index", "offer(0, 3, 1, 1) = 1");
        Script.run("Promise 6", "if the pool would have more than 2000",
                "offer(0, 0, 500, 10000) = 500", "offer(0, 0, 500, 7) = 1000", "offer(0, 0, 500, 7) = 1500",
                "offer(0, 0, 499, 7) = 1999", "offer(0, 0, 2, 8) = state", "lenderOf(0, 0, 2) = 7",
                "offer(0, 0, 1, 9) = 2000", "offer(0, 0, 1, 8) = state", "offer(0, 0, 500, 8) = state",
                "offer(0, 0, 0, 5) = 2000", "lenderOf(0, 0, 0) = 2000", "lenderOf(0, 0, 2) = 5",
                "offer(0, 0, 501, 1) = argument", "offer(0, 0, 1, -1) = argument", "offer(0, 1, 500, 1) = 500",
                "offer(1, 0, 500, 1) = 500");
        Script.run("Promise 6", "if the pool would have more than 2000",
                "offer(0, 0, 500, 0) = 500", "offer(0, 0, 500, 0) = 1000", "offer(0, 0, 500, 0) = 1500",
                "offer(0, 0, 500, 0) = 2000", "locate(0, 0, 100) = 0", "sellShort(0, 100) = 10000",
                "offer(0, 0, 101, 0) = state", "offer(0, 0, 100, 0) = 2000", "buy(0, 0, 100) = 0",
                "lenderOf(0, 0, 0) = 2100", "offer(0, 0, 1, 0) = state", "offer(0, 0, 0, 0) = state",
                "locate(1, 0, 99) = 1", "sellShort(1, 99) = 9900", "offer(0, 0, 0, 0) = state", "locate(2, 0, 1) = 2",
                "sellShort(2, 1) = 100", "offer(0, 0, 0, 3) = 2000", "lenderOf(0, 0, 2) = 3");
    }

    private static void promise7() {
        Ranges.of("Promise 7", "dividend", "1", "20").index("`stock`: 0 to 3", 0, 3)
            .argument("`cents`: 1 to 10000: for each share", 1, 10000).behind();
        String[] shares = {"buy(0, 0, 50) = -5000", "allow(0, true) = false", "offer(2, 0, 20, 100) = 20",
            "locate(1, 0, 60) = 0", "sellShort(0, 60) = 6000", "buy(3, 0, 5) = -500"};
        Script.run("Promise 7", "A dividend is paid.", with(shares, "dividend(0, 3) = 30", "clientOf(0, 0) = -4850",
                "clientOf(1, 0) = 5820", "clientOf(3, 0) = -485", "clientOf(2, 0) = 0", "lenderOf(2, 0, 3) = 30",
                "lenderOf(2, 1, 3) = 30", "lenderOf(1, 0, 3) = 0"));
        Script.run("Promise 7", "`cents`: 1 to 10000: for each share", with(shares, "dividend(0, 0) = argument",
                "dividend(0, 1) = 10", "clientOf(1, 0) = 5940", "dividend(0, 10001) = argument",
                "dividend(0, 10000) = 100000", "clientOf(1, 0) = -594060", "lenderOf(2, 0, 3) = 100010"));
        Script.run("Promise 7", "Returns what all lenders get.",
                "offer(0, 1, 3, 0) = 3", "offer(3, 1, 4, 0) = 4", "offer(3, 2, 5, 0) = 5", "dividend(1, 10000) = 0",
                "locate(4, 1, 7) = 0", "sellShort(0, 7) = 700", "locate(4, 2, 5) = 1", "sellShort(1, 5) = 1200",
                "dividend(1, 10) = 70", "dividend(2, 2) = 10", "lenderOf(0, 0, 3) = 30", "lenderOf(3, 0, 3) = 50",
                "clientOf(4, 0) = 1120", "buy(4, 1, 7) = 420", "dividend(1, 10000) = 0");
        Script.run("Promise 7", "Returns what all lenders get.", "buy(0, 0, 2) = -200", "allow(0, true) = false",
                "locate(1, 0, 2) = 0", "sellShort(0, 2) = 200", "dividend(0, 10000) = 0", "clientOf(0, 0) = 19800",
                "clientOf(1, 0) = -19800");
        Script.run("Promise 7", "Throws `IndexOutOfBoundsException` if there is no such stock",
                "dividend(-1, 1) = index", "dividend(0, 1) = 0", "dividend(4, 1) = index", "dividend(3, 1) = 0",
                "dividend(4, 0) = index", "dividend(-1, 10001) = index");
        Script.run("Promise 7", "Throws `IllegalArgumentException` if cents are out of range",
                "dividend(0, 0) = argument", "dividend(0, 10001) = argument", "dividend(0, -1) = argument");
    }

    private static String[] with(String[] before, String... more) {
        List<String> lines = new ArrayList<>(List.of(before));
        lines.addAll(List.of(more));
        return lines.toArray(new String[0]);
    }

    private static void promise8() {
        String[] to451 = {"pass(50)", "pass(50)", "pass(50)", "pass(50)", "pass(50)", "pass(50)", "pass(50)", "pass(50)",
            "pass(50)", "pass(1)"};
        Ranges.of("Promise 8", "pass", "50").argument("`days`: 1 to 50", 1, 50).behind().refusedBehind(to451);
        Script.run("Promise 8", "Lets days pass.", "pass(1) = 1", "day() = 1", "pass(50) = 51", "day() = 51",
                "offer(0, 0, 100, 3600) = 100", "locate(0, 0, 100) = 0", "sellShort(0, 100) = 10000", "pass(1) = 52",
                "lenderOf(0, 0, 3) = 10", "pass(2) = 54", "lenderOf(0, 0, 3) = 30", "pass(50) = 104",
                "lenderOf(0, 0, 3) = 530");
        Script.run("Promise 8", "Returns the day then.", "pass(3) = 3", "pass(4) = 7", "pass(50) = 57");
        Script.run("Promise 8", "Throws `IllegalArgumentException` if days are out of range",
                "pass(0) = argument", "pass(1) = 1", "pass(51) = argument", "pass(50) = 51", "pass(-1) = argument",
                "day() = 51");
        List<String> lines = new ArrayList<>();
        for (int day = 50; day <= 450; day += 50) {
            lines.add("pass(50) = " + day);
        }
        lines.addAll(List.of("pass(1) = 451", "pass(50) = state", "pass(51) = argument", "pass(48) = 499",
                "pass(2) = state", "pass(1) = 500", "pass(1) = state", "pass(0) = argument", "day() = 500"));
        Script.run("Promise 8", "Throws `IllegalStateException` if it would be above 500", lines.toArray(new String[0]));
        lines = lines.subList(0, 9);
        lines.add("pass(50) = 500");
        lines.add("pass(1) = state");
        Script.run("Promise 8", "Throws `IllegalStateException` if it would be above 500", lines.toArray(new String[0]));
    }
}
