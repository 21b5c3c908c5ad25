import java.util.ArrayList;
import java.util.Arrays;
import java.util.List;

/** Each promise of the document: ordinary calls, the edges, and what is to be thrown. */
public final class PromiseTests {
    private PromiseTests() {
    }

    public static void main(String[] args) {
        promise1();
        promise2();
        promise3();
        promise4();
        promise5();
        promise6();
        promise7();
        promise8();
        promise9();
        promise10();
        promise11();
        promise12();
        promise13();
        promise14();
        promise15();
        promise16();
        promises17To19();
        promise20();
        promise21();
        promise22();
        promise23();
        promise24();
        promise25();
        mostLoans();
        Script.end();
    }

    private static void promise1() {
        List<String> lines = new ArrayList<>();
        lines.add("day() = 0");
        for (int what = 0; what < 5; what++) {
            lines.add("count(" + what + ") = 0");
        }
        int[] ofStock = {100, 0, 0, 0, 0, 0, 50};
        for (int stock = 0; stock < 4; stock++) {
            for (int what = 0; what < 7; what++) {
                lines.add("stockOf(" + stock + "," + what + ") = " + ofStock[what]);
            }
            for (int client = 0; client < 6; client++) {
                lines.add("position(" + client + "," + stock + ") = 0");
                lines.add("part(" + client + "," + stock + ") = 0");
                lines.add("partAnew(" + client + "," + stock + ") = 0");
            }
            for (int lender = 0; lender < 4; lender++) {
                for (int what = 0; what < 4; what++) {
                    lines.add("lenderOf(" + lender + "," + stock + "," + what + ") = 0");
                }
            }
        }
        for (int client = 0; client < 6; client++) {
            for (int what = 0; what < 5; what++) {
                lines.add("clientOf(" + client + "," + what + ") = 0");
            }
            lines.add("allow(" + client + ", false) = false");
        }
        lines.add("loanOf(0, 0) = index");
        lines.add("locateOf(0, 0) = index");
        lines.add("locate(0, 0, 1) = state");
        Script.run("promise 1", lines.toArray(new String[0]));
        twoObjectsAreApart();
    }

    private static void twoObjectsAreApart() {
        Primeborrow one = new Primeborrow();
        one.price(0, 5);
        one.buy(0, 0, 9);
        one.allow(0, true);
        one.locate(1, 0, 4);
        one.sellShort(0, 4);
        one.pass(3);
        Script.expect("promise 1: a second object", Script.told(new Primeborrow(), 400), Script.told(fresh(), 400));
        Script.expect("promise 1: the second's price", Script.answer(new Primeborrow(), "stockOf(0,0)"), "100");
        Script.expect("promise 1: NONE", String.valueOf(Primeborrow.NONE), "-1");
    }

    private static Primeborrow fresh() {
        return new Primeborrow();
    }

    private static void promise2() {
        Script.run("promise 2",
                "price(0, 250) = 100", "price(0, 1) = 250", "price(0, 100000) = 1", "price(3, 7) = 100",
                "stockOf(0, 0) = 100000", "stockOf(3, 0) = 7", "stockOf(1, 0) = 100",
                "price(-1, 5) = index", "price(4, 5) = index", "price(4, 0) = index", "price(-1, 100001) = index",
                "price(0, 0) = argument", "price(0, 100001) = argument", "price(0, -2147483648) = argument",
                "price(0, 2147483647) = argument", "price(2147483647, 1) = index", "price(-2147483648, 1) = index",
                "stockOf(0, 0) = 100000", "buy(0, 3, 4) = -28", "price(3, 9) = 7", "sell(0, 3, 4) = 8");
    }

    private static void promise3() {
        Script.run("promise 3",
                "margin(0, 10) = 50", "margin(0, 100) = 10", "margin(3, 33) = 50",
                "stockOf(0, 6) = 100", "stockOf(3, 6) = 33", "stockOf(1, 6) = 50",
                "margin(-1, 50) = index", "margin(4, 50) = index", "margin(4, 9) = index", "margin(-1, 101) = index",
                "margin(0, 9) = argument", "margin(0, 101) = argument", "margin(0, -50) = argument",
                "stockOf(0, 6) = 100", "buy(0, 0, 10) = -1000", "clientOf(0, 2) = 1100",
                "margin(0, 10) = 100", "clientOf(0, 2) = 200");
    }

    private static void promise4() {
        Script.run("promise 4",
                "cash(0, 5000) = 5000", "cash(0, 0) = 5000", "cash(0, -4999) = 1", "cash(0, -1) = 0",
                "cash(0, -1) = state", "cash(0, 0) = 0", "cash(5, 100000000) = 100000000",
                "cash(5, 100000000) = 200000000", "cash(5, -100000000) = 100000000",
                "cash(5, 100000001) = argument", "cash(5, -100000001) = argument",
                "cash(6, 5) = index", "cash(-1, 5) = index", "cash(6, 100000001) = index",
                "clientOf(5, 0) = 100000000", "clientOf(0, 0) = 0");
        Script.run("promise 4, with a position",
                "cash(1, 5000) = 5000", "buy(1, 0, 100) = -5000", "clientOf(1, 1) = 5000", "clientOf(1, 2) = 6000",
                "cash(1, -1) = state", "cash(1, 0) = -5000", "cash(1, 999) = -4001", "clientOf(1, 3) = 1",
                "cash(1, -1) = state", "cash(1, 2) = -3999", "clientOf(1, 3) = 0", "cash(1, -2) = state",
                "cash(1, -1) = -4000", "cash(1, -1) = state");
        Script.run("promise 4, short",
                "offer(0, 0, 100, 0) = 100", "locate(2, 0, 100) = 0", "sellShort(0, 100) = 10000",
                "cash(2, -1) = state", "cash(2, 7000) = 17000", "cash(2, -1000) = 16000", "cash(2, -1) = state");
        Script.run("promise 4, failed",
                "fail(3) = 0", "cash(3, 5) = state", "cash(3, 0) = state", "cash(3, -5) = state",
                "cash(3, 100000001) = argument");
    }

    private static void promise5() {
        Script.run("promise 5",
                "allow(0, true) = false", "allow(0, true) = true", "allow(0, false) = true", "allow(0, false) = false",
                "allow(-1, true) = index", "allow(6, true) = index",
                "buy(0, 0, 10) = -1000", "locate(1, 0, 1) = state", "allow(0, true) = false", "locate(1, 0, 10) = 0",
                "allow(0, false) = true", "sellShort(0, 1) = state", "allow(0, true) = false", "sellShort(0, 4) = 400",
                "allow(0, false) = true", "part(0, 0) = 6", "loanOf(0, 3) = 4", "locate(1, 0, 1) = state",
                "pass(1) = 1", "loanOf(0, 3) = 4", "fail(5) = 0", "allow(5, true) = state", "allow(5, false) = state");
    }

    private static void promise6() {
        Script.run("promise 6",
                "offer(0, 0, 0, 0) = 0", "offer(0, 0, 500, 10000) = 500", "lenderOf(0, 0, 2) = 10000",
                "offer(0, 0, 500, 7) = 1000", "offer(0, 0, 500, 7) = 1500", "offer(0, 0, 499, 7) = 1999",
                "offer(0, 0, 2, 8) = state", "offer(0, 0, 1, 9) = 2000", "offer(0, 0, 1, 8) = state",
                "offer(0, 0, 0, 5) = 2000", "lenderOf(0, 0, 0) = 2000", "lenderOf(0, 0, 2) = 5",
                "offer(0, 1, 3, 4) = 3", "offer(3, 0, 6, 2) = 6", "lenderOf(0, 1, 0) = 3", "lenderOf(3, 0, 2) = 2",
                "offer(-1, 0, 1, 1) = index", "offer(4, 0, 1, 1) = index", "offer(0, -1, 1, 1) = index",
                "offer(0, 4, 1, 1) = index", "offer(0, 4, -1, 1) = index", "offer(4, 0, 1, 10001) = index",
                "offer(1, 0, -1, 1) = argument", "offer(1, 0, 501, 1) = argument", "offer(1, 0, 1, -1) = argument",
                "offer(1, 0, 1, 10001) = argument", "offer(0, 0, 501, 1) = argument", "offer(0, 0, 1, -1) = argument");
        Script.run("promise 6, the fee is for loans from now on",
                "offer(0, 0, 10, 300) = 10", "locate(0, 0, 9) = 0", "sellShort(0, 4) = 400", "offer(0, 0, 0, 900) = 6",
                "loanOf(0, 4) = 300", "locate(0, 0, 5) = 1", "sellShort(1, 5) = 900", "loanOf(1, 4) = 900",
                "loanOf(0, 4) = 300");
        Script.run("promise 6, a pool that is fuller by what came back",
                "offer(0, 0, 500, 0) = 500", "offer(0, 0, 500, 0) = 1000", "offer(0, 0, 500, 0) = 1500",
                "offer(0, 0, 500, 0) = 2000", "locate(0, 0, 100) = 0", "sellShort(0, 100) = 10000",
                "offer(0, 0, 101, 0) = state", "offer(0, 0, 100, 0) = 2000", "buy(0, 0, 100) = 0",
                "lenderOf(0, 0, 0) = 2100", "offer(0, 0, 1, 0) = state", "offer(0, 0, 0, 0) = state");
    }

    private static void promise7() {
        Script.run("promise 7",
                "buy(0, 0, 50) = -5000", "allow(0, true) = false", "offer(2, 0, 20, 100) = 20",
                "locate(1, 0, 60) = 0", "sellShort(0, 60) = 6000", "buy(3, 0, 5) = -500",
                "dividend(0, 3) = 30", "clientOf(0, 0) = -4850", "clientOf(1, 0) = 5820", "clientOf(3, 0) = -485",
                "clientOf(2, 0) = 0", "lenderOf(2, 0, 3) = 30", "lenderOf(2, 1, 3) = 30", "lenderOf(1, 0, 3) = 0",
                "dividend(1, 10000) = 0", "dividend(0, 10000) = 100000", "clientOf(1, 0) = -594180",
                "lenderOf(2, 0, 3) = 100030", "dividend(0, 1) = 10",
                "dividend(-1, 1) = index", "dividend(4, 1) = index", "dividend(4, 0) = index",
                "dividend(0, 0) = argument", "dividend(0, 10001) = argument", "dividend(0, -1) = argument");
        Script.run("promise 7, two lenders, two stocks",
                "offer(0, 1, 3, 0) = 3", "offer(3, 1, 4, 0) = 4", "offer(3, 2, 5, 0) = 5",
                "locate(4, 1, 7) = 0", "sellShort(0, 7) = 700", "locate(4, 2, 5) = 1", "sellShort(1, 5) = 1200",
                "dividend(1, 10) = 70", "dividend(2, 2) = 10", "lenderOf(0, 0, 3) = 30", "lenderOf(3, 0, 3) = 50",
                "clientOf(4, 0) = 1120");
    }

    private static void promise8() {
        Script.run("promise 8",
                "pass(1) = 1", "pass(50) = 51", "pass(0) = argument", "pass(51) = argument", "pass(-1) = argument",
                "pass(50) = 101", "pass(50) = 151", "pass(50) = 201", "pass(50) = 251", "pass(50) = 301",
                "pass(50) = 351", "pass(50) = 401", "pass(50) = 451", "pass(50) = state", "pass(51) = argument",
                "pass(49) = 500", "pass(1) = state", "pass(0) = argument", "day() = 500");
        Script.run("promise 8, fees of each loan are rounded down by themselves",
                "offer(0, 0, 19, 3600) = 19", "offer(1, 0, 15, 3600) = 15", "buy(4, 0, 30) = -3000",
                "allow(4, true) = false", "locate(2, 0, 64) = 0", "sellShort(0, 64) = 6400",
                "pass(1) = 1", "clientOf(2, 0) = 6398", "lenderOf(0, 0, 3) = 1", "lenderOf(1, 3, 3) = 1",
                "clientOf(4, 0) = -3000", "pass(10) = 11", "clientOf(2, 0) = 6378", "lenderOf(0, 0, 3) = 11",
                "price(0, 1000) = 100", "pass(1) = 12", "clientOf(2, 0) = 6344", "lenderOf(0, 0, 3) = 30",
                "lenderOf(1, 0, 3) = 26");
        Script.run("promise 8, a fee just below a whole cent",
                "offer(0, 0, 497, 9999) = 497", "price(0, 99998) = 100", "locate(2, 0, 497) = 0",
                "sellShort(0, 497) = 49699006", "pass(1) = 1", "lenderOf(0, 0, 3) = 138038");
        Script.run("promise 8, the dearest fee",
                "offer(0, 0, 500, 10000) = 500", "price(0, 100000) = 100", "locate(2, 0, 500) = 0",
                "sellShort(0, 500) = 50000000", "pass(1) = 1", "clientOf(2, 0) = 49861112", "lenderOf(0, 0, 3) = 138888");
        Script.run("promise 8, recalls that are due on one day are met by rising numbers",
                "offer(1, 0, 10, 50) = 10", "locate(0, 0, 10) = 0", "sellShort(0, 10) = 1000", "offer(0, 0, 15, 0) = 15",
                "recall(1, 0, 10, 1) = 0", "recall(0, 0, 15, 1) = 1", "pass(1) = 1", "position(0, 0) = 0",
                "count(0) = 2", "count(1) = 0", "count(2) = 10", "count(4) = 2", "clientOf(0, 0) = -50",
                "lenderOf(0, 0, 0) = 5", "lenderOf(1, 0, 0) = 0");
        Script.run("promise 8, fees are due before recalls are met",
                "offer(0, 0, 10, 3600) = 10", "price(0, 1000) = 100", "locate(0, 0, 10) = 0", "sellShort(0, 10) = 10000",
                "recall(0, 0, 10, 2) = 0", "pass(5) = 5", "lenderOf(0, 0, 3) = 20", "clientOf(0, 0) = -520",
                "position(0, 0) = 0");
    }

    private static void promise9() {
        Script.run("promise 9",
                "buy(0, 0, 1) = -100", "buy(0, 0, 499) = -50000", "buy(0, 0, 1) = state", "position(0, 0) = 500",
                "part(0, 0) = 500", "partAnew(0, 0) = 500", "buy(0, 1, 500) = -100000",
                "buy(-1, 0, 1) = index", "buy(6, 0, 1) = index", "buy(0, -1, 1) = index", "buy(0, 4, 1) = index",
                "buy(6, 0, 0) = index", "buy(0, 4, 501) = index", "buy(1, 0, 0) = argument", "buy(1, 0, 501) = argument",
                "buy(1, 0, -1) = argument", "buy(0, 0, 501) = argument", "buy(0, 0, 0) = argument",
                "fail(2) = 0", "buy(2, 0, 1) = state", "buy(2, 0, 0) = argument", "buy(2, 4, 1) = index");
        Script.run("promise 9, loans are given back by falling fees, of like ones the latest first",
                "buy(0, 0, 5) = -500", "allow(0, true) = false", "offer(0, 0, 5, 100) = 5", "offer(1, 0, 5, 300) = 5",
                "offer(2, 0, 5, 0) = 5", "locate(3, 0, 20) = 0", "sellShort(0, 20) = 2000",
                "loanOf(0, 1) = 0", "loanOf(1, 1) = 12", "loanOf(2, 1) = 10", "loanOf(3, 1) = 11",
                "buy(3, 0, 7) = 1300", "loanOf(3, 3) = 0", "loanOf(2, 3) = 3", "loanOf(1, 3) = 5",
                "lenderOf(1, 0, 0) = 5", "lenderOf(0, 0, 0) = 2", "lenderOf(0, 0, 1) = 3", "position(3, 0) = -13",
                "buy(3, 0, 4) = 900", "loanOf(2, 3) = 0", "loanOf(1, 3) = 4", "loanOf(0, 3) = 5",
                "buy(3, 0, 5) = 400", "loanOf(1, 3) = 0", "loanOf(0, 3) = 4", "part(0, 0) = 1", "partAnew(0, 0) = 1",
                "count(1) = 1", "buy(3, 0, 6) = -200", "count(1) = 0", "count(0) = 4", "position(3, 0) = 2",
                "part(3, 0) = 2", "partAnew(3, 0) = 2", "part(0, 0) = 5", "partAnew(0, 0) = 5");
        Script.run("promise 9, a like fee of two lenders, and another client's and stock's loans",
                "offer(0, 0, 4, 70) = 4", "offer(1, 0, 4, 70) = 4", "locate(0, 0, 6) = 0", "sellShort(0, 6) = 600",
                "locate(1, 0, 2) = 1", "sellShort(1, 2) = 200", "offer(0, 1, 3, 90) = 3", "locate(0, 1, 3) = 2",
                "sellShort(2, 3) = 900", "buy(0, 0, 3) = 600", "loanOf(1, 3) = 0", "loanOf(0, 3) = 3",
                "loanOf(2, 3) = 2", "loanOf(3, 3) = 3");
        Script.run("promise 9, from short to as long as may be",
                "offer(0, 0, 20, 0) = 20", "locate(0, 0, 20) = 0", "sellShort(0, 20) = 2000", "buy(0, 0, 500) = -48000",
                "position(0, 0) = 480", "buy(0, 0, 21) = state", "buy(0, 0, 20) = -50000", "part(0, 0) = 500");
    }

    private static void promise10() {
        Script.run("promise 10",
                "buy(0, 0, 30) = -3000", "price(0, 110) = 100", "sell(0, 0, 10) = -1900", "position(0, 0) = 20",
                "sell(0, 0, 21) = state", "sell(0, 1, 1) = state", "sell(0, 0, 20) = 300", "sell(0, 0, 1) = state",
                "sell(-1, 0, 1) = index", "sell(6, 0, 1) = index", "sell(0, -1, 1) = index", "sell(0, 4, 1) = index",
                "sell(6, 0, 0) = index", "sell(0, 4, 501) = index", "sell(0, 0, 0) = argument",
                "sell(0, 0, 501) = argument", "sell(0, 0, -1) = argument", "fail(1) = 0", "sell(1, 0, 1) = state",
                "sell(1, 0, 0) = argument", "offer(0, 0, 9, 0) = 9", "locate(2, 0, 9) = 0", "sellShort(0, 9) = 990",
                "sell(2, 0, 1) = state");
        Script.run("promise 10, out of the own part first, the rest called back, the latest first",
                "buy(0, 1, 50) = -5000", "allow(0, true) = false", "locate(1, 1, 50) = 0", "sellShort(0, 20) = 2000",
                "locate(2, 1, 10) = 1", "sellShort(1, 10) = 1000", "part(0, 1) = 20", "sell(0, 1, 20) = -3000",
                "count(2) = 0", "part(0, 1) = 0", "offer(3, 1, 4, 40) = 4", "buy(0, 1, 2) = -3200",
                "sell(0, 1, 9) = -2300", "loanOf(1, 3) = 3", "loanOf(0, 3) = 20", "loanOf(2, 1) = 13",
                "loanOf(2, 2) = 2", "loanOf(2, 3) = 4", "loanOf(2, 4) = 40", "count(2) = 3", "position(2, 1) = -7",
                "clientOf(2, 0) = 685", "clientOf(1, 0) = 2000", "position(0, 1) = 23", "part(0, 1) = 0",
                "partAnew(0, 1) = 0", "allow(0, false) = true", "sell(0, 1, 23) = 0", "position(1, 1) = 0",
                "position(2, 1) = -4", "count(2) = 26", "clientOf(1, 0) = -100", "clientOf(2, 0) = 370",
                "stockOf(1, 4) = 0", "stockOf(1, 5) = 4");
        Script.run("promise 10, what is bought in is paid loan by loan, rounded up",
                "buy(0, 0, 2) = -200", "allow(0, true) = false", "locate(1, 0, 1) = 0", "locate(1, 0, 1) = 1",
                "sellShort(0, 1) = 100", "sellShort(1, 1) = 200", "price(0, 1) = 100", "sell(0, 0, 2) = -198",
                "clientOf(1, 0) = 196", "count(2) = 2");
        Script.run("promise 10, replaced from parts by rising numbers, then from pools by rising fees",
                "buy(3, 0, 10) = -1000", "allow(3, true) = false", "locate(1, 0, 10) = 0", "sellShort(0, 10) = 1000",
                "buy(0, 0, 2) = -200", "buy(2, 0, 3) = -300", "buy(5, 0, 1) = -100", "allow(5, true) = false",
                "allow(2, true) = false", "offer(0, 0, 1, 9) = 1", "offer(1, 0, 2, 8) = 2", "offer(3, 0, 1, 8) = 1",
                "sell(3, 0, 10) = 0", "count(0) = 6", "loanOf(1, 1) = 2", "loanOf(1, 3) = 3", "loanOf(2, 1) = 5",
                "loanOf(3, 1) = 11", "loanOf(4, 1) = 13", "loanOf(5, 1) = 10", "loanOf(5, 4) = 9", "count(2) = 2",
                "position(1, 0) = -8", "part(0, 0) = 2", "partAnew(2, 0) = 0", "stockOf(0, 3) = 2");
    }

    private static void promise11() {
        Script.run("promise 11",
                "buy(1, 0, 30) = -3000", "allow(1, true) = false", "offer(0, 0, 12, 5) = 12", "offer(0, 1, 99, 5) = 99",
                "locate(0, 0, 43) = state", "locate(0, 0, 42) = 0", "locate(0, 0, 42) = 1", "locate(2, 0, 42) = 2",
                "locate(1, 0, 12) = 3", "locate(1, 0, 13) = state", "buy(2, 0, 500) = -50000",
                "locate(0, 0, 43) = state", "allow(2, true) = false", "locate(0, 0, 500) = 4", "locate(2, 0, 42) = 5",
                "locate(2, 0, 43) = state",
                "locate(-1, 0, 1) = index", "locate(6, 0, 1) = index", "locate(0, -1, 1) = index",
                "locate(0, 4, 1) = index", "locate(6, 0, 0) = index", "locate(0, 0, 0) = argument",
                "locate(0, 0, 501) = argument", "locate(0, 3, 501) = argument", "locate(0, 3, 1) = state",
                "fail(5) = 0", "locate(5, 0, 1) = state", "locate(5, 0, 0) = argument", "locate(0, 0, 1) = 6");
        List<String> lines = new ArrayList<>();
        lines.add("offer(0, 0, 1, 0) = 1");
        for (int i = 0; i < 60; i++) {
            lines.add("locate(" + i % 6 + ", 0, 1) = " + i);
        }
        lines.addAll(Arrays.asList("locate(0, 0, 1) = state", "locate(0, 0, 0) = argument", "locateOf(59, 0) = 5",
                "locateOf(60, 0) = index", "sellShort(59, 1) = 100", "pass(2) = 2", "locate(0, 0, 1) = state"));
        Script.run("promise 11, at most 60", lines.toArray(new String[0]));
    }

    private static void promise12() {
        Script.run("promise 12",
                "offer(0, 0, 20, 0) = 20", "locate(0, 0, 10) = 0", "price(0, 70) = 100", "sellShort(0, 0) = argument",
                "sellShort(0, 11) = argument", "sellShort(0, -1) = argument", "sellShort(1, 1) = index",
                "sellShort(-1, 1) = index", "sellShort(1, 0) = index", "sellShort(0, 6) = 420", "position(0, 0) = -6",
                "sellShort(0, 1) = state", "sellShort(0, 11) = argument", "locate(0, 0, 10) = 1", "pass(1) = 1",
                "sellShort(1, 10) = 1120", "position(0, 0) = -16", "locate(0, 0, 4) = 2", "locate(1, 0, 4) = 3",
                "sellShort(3, 1) = 70", "sellShort(2, 4) = state", "sellShort(2, 3) = 1330", "position(0, 0) = -19",
                "offer(0, 0, 50, 0) = 50", "locate(2, 0, 5) = 4", "locate(3, 0, 5) = 5", "locate(4, 0, 5) = 6",
                "pass(1) = 2", "sellShort(4, 5) = 350", "pass(1) = 3", "sellShort(5, 5) = state", "sellShort(6, 1) = state",
                "sellShort(5, 6) = argument");
        Script.run("promise 12, long, failed",
                "offer(0, 0, 20, 0) = 20", "locate(0, 0, 10) = 0", "locate(1, 0, 10) = 1", "buy(0, 0, 1) = -100",
                "sellShort(0, 1) = state", "sell(0, 0, 1) = 0", "sellShort(0, 1) = 100", "fail(1) = 0",
                "sellShort(1, 1) = state", "sellShort(1, 0) = argument");
        Script.run("promise 12, at most 500 short",
                "offer(0, 0, 500, 0) = 500", "offer(1, 0, 500, 0) = 500", "locate(0, 0, 499) = 0", "locate(0, 0, 5) = 1",
                "locate(0, 0, 500) = 2", "sellShort(0, 499) = 49900", "sellShort(1, 2) = state", "sellShort(1, 1) = 50000",
                "position(0, 0) = -500", "sellShort(2, 1) = state", "buy(0, 0, 500) = 0", "sellShort(2, 500) = 50000");
        Script.run("promise 12, borrowed by rising numbers, then by rising fees",
                "buy(4, 2, 3) = -300", "allow(4, true) = false", "buy(2, 2, 4) = -400", "allow(2, true) = false",
                "buy(0, 2, 5) = -500", "offer(3, 2, 6, 20) = 6", "offer(2, 2, 7, 10) = 7", "offer(1, 2, 8, 20) = 8",
                "offer(0, 2, 0, 0) = 0", "locate(3, 2, 28) = 0", "locate(3, 2, 29) = state", "sellShort(0, 27) = 2700",
                "count(0) = 5", "loanOf(0, 1) = 2", "loanOf(0, 3) = 4", "loanOf(1, 1) = 4", "loanOf(1, 3) = 3",
                "loanOf(2, 1) = 12", "loanOf(2, 3) = 7", "loanOf(3, 1) = 11", "loanOf(3, 3) = 8", "loanOf(4, 1) = 13",
                "loanOf(4, 3) = 5", "loanOf(4, 4) = 20", "loanOf(1, 4) = 0", "lenderOf(3, 2, 0) = 1",
                "part(0, 2) = 5", "part(2, 2) = 0", "partAnew(2, 2) = 0", "partAnew(4, 2) = 0");
    }

    private static void promise13() {
        Script.run("promise 13",
                "recall(0, 0, 1, 1) = 0", "recall(0, 0, 500, 10) = 1",
                "recall(-1, 0, 1, 1) = index", "recall(4, 0, 1, 1) = index", "recall(0, -1, 1, 1) = index",
                "recall(0, 4, 1, 1) = index", "recall(4, 0, 0, 1) = index", "recall(0, 4, 1, 0) = index",
                "recall(0, 0, 0, 1) = argument", "recall(0, 0, 501, 1) = argument", "recall(0, 0, 1, 0) = argument",
                "recall(0, 0, 1, 11) = argument", "count(4) = 0", "pass(1) = 1", "count(4) = 1", "pass(8) = 9",
                "count(4) = 1", "pass(1) = 10", "count(4) = 2", "pass(1) = 11", "count(4) = 2");
        List<String> lines = new ArrayList<>();
        for (int i = 0; i < 40; i++) {
            lines.add("recall(" + i % 4 + ", 0, 3, 2) = " + i);
        }
        lines.addAll(Arrays.asList("recall(0, 0, 1, 1) = state", "recall(0, 0, 0, 1) = argument", "pass(2) = 2",
                "count(4) = 40", "recall(0, 0, 1, 1) = state"));
        Script.run("promise 13, at most 40", lines.toArray(new String[0]));
        Script.run("promise 13, replaced, but not by that lender; the latest first",
                "offer(0, 0, 8, 10) = 8", "locate(0, 0, 4) = 0", "locate(1, 0, 4) = 1", "sellShort(0, 3) = 300",
                "sellShort(1, 2) = 200", "buy(2, 0, 1) = -100", "allow(2, true) = false", "offer(1, 0, 1, 5) = 1",
                "recall(0, 0, 4, 3) = 0", "pass(2) = 2", "lenderOf(0, 0, 1) = 5", "pass(1) = 3",
                "lenderOf(0, 0, 1) = 1", "lenderOf(0, 0, 0) = 3", "loanOf(1, 3) = 0", "loanOf(0, 3) = 1",
                "loanOf(2, 1) = 2", "loanOf(2, 2) = 1", "loanOf(2, 3) = 1", "loanOf(3, 1) = 11", "loanOf(3, 2) = 1",
                "count(0) = 4", "count(2) = 2", "position(0, 0) = -1", "position(1, 0) = -2", "clientOf(0, 0) = 90",
                "clientOf(1, 0) = 200", "part(2, 0) = 0", "buy(0, 0, 1) = -10", "lenderOf(0, 0, 0) = 4");
        Script.run("promise 13, not replaced out of that lender's own pool",
                "offer(3, 2, 9, 0) = 9", "locate(0, 2, 5) = 0", "sellShort(0, 5) = 500", "recall(3, 2, 4, 1) = 0",
                "pass(1) = 1", "lenderOf(3, 2, 0) = 4", "lenderOf(3, 2, 1) = 1", "count(0) = 1", "count(2) = 4",
                "position(0, 2) = -1", "clientOf(0, 0) = 80");
        Script.run("promise 13, another lender's and another stock's loans stay",
                "offer(0, 0, 5, 0) = 5", "offer(1, 0, 5, 1) = 5", "offer(0, 1, 5, 0) = 5", "locate(0, 0, 10) = 0",
                "sellShort(0, 10) = 1000", "locate(0, 1, 5) = 1", "sellShort(1, 5) = 1500", "recall(0, 0, 500, 1) = 0",
                "pass(1) = 1", "position(0, 0) = -5", "position(0, 1) = -5", "loanOf(1, 3) = 5", "loanOf(2, 3) = 5",
                "lenderOf(0, 0, 0) = 0", "lenderOf(0, 1, 1) = 5", "clientOf(0, 0) = 975");
        Script.run("promise 13, what came back meanwhile is not called back",
                "offer(0, 0, 5, 0) = 5", "locate(0, 0, 5) = 0", "sellShort(0, 5) = 500", "recall(0, 0, 4, 1) = 0",
                "buy(0, 0, 3) = 200", "pass(1) = 1", "lenderOf(0, 0, 0) = 3", "lenderOf(0, 0, 1) = 0",
                "position(0, 0) = 0", "clientOf(0, 0) = -10", "count(2) = 2", "count(4) = 1");
        Script.run("promise 13, shares that are lent later are called back as well",
                "offer(0, 0, 5, 0) = 5", "recall(0, 0, 4, 2) = 0", "pass(1) = 1", "locate(0, 0, 5) = 0",
                "sellShort(0, 5) = 500", "pass(1) = 2", "position(0, 0) = -1", "lenderOf(0, 0, 1) = 1");
    }

    private static void promise14() {
        Script.run("promise 14, of several the lowest stock, until it is not called",
                "cash(0, 12000) = 12000", "buy(0, 2, 100) = 2000", "buy(0, 1, 100) = -8000", "liquidate(0) = state",
                "price(1, 80) = 100", "price(2, 80) = 100", "clientOf(0, 3) = 0", "liquidate(0) = state",
                "price(1, 79) = 80", "price(2, 79) = 80", "clientOf(0, 3) = 1", "liquidate(0) = 1",
                "position(0, 1) = 0", "position(0, 2) = 100", "clientOf(0, 0) = -100", "clientOf(0, 3) = 0",
                "liquidate(0) = state", "liquidate(-1) = index", "liquidate(6) = index");
        Script.run("promise 14, the greatest first, without sign",
                "offer(0, 3, 100, 0) = 100", "locate(1, 3, 100) = 0", "sellShort(0, 100) = 10000", "buy(1, 0, 50) = 5000",
                "price(3, 30) = 100", "clientOf(1, 3) = 0", "price(3, 101) = 30", "clientOf(1, 2) = 8560",
                "clientOf(1, 3) = 1", "liquidate(1) = 2", "position(1, 0) = 0", "position(1, 3) = 0",
                "clientOf(1, 0) = -100", "lenderOf(0, 3, 0) = 100");
        Script.run("promise 14, called without a position",
                "offer(0, 3, 100, 0) = 100", "locate(1, 3, 100) = 0", "sellShort(0, 100) = 10000", "price(3, 150) = 100",
                "clientOf(1, 1) = -5000", "liquidate(1) = 1", "clientOf(1, 0) = -5000", "clientOf(1, 3) = 1",
                "liquidate(1) = 0", "cash(1, 5000) = 0", "liquidate(1) = state", "buy(1, 0, 1) = -100");
        Script.run("promise 14, lent shares are called back",
                "buy(0, 0, 10) = -1000", "allow(0, true) = false", "locate(1, 0, 10) = 0", "sellShort(0, 10) = 1000",
                "clientOf(0, 3) = 1", "liquidate(0) = 1", "position(1, 0) = 0", "clientOf(1, 0) = -50", "count(2) = 10",
                "clientOf(0, 0) = 0");
        Script.run("promise 14, four positions",
                "buy(0, 0, 1) = -100", "buy(0, 1, 1) = -200", "buy(0, 3, 1) = -300", "offer(1, 2, 1, 0) = 1",
                "locate(0, 2, 1) = 0", "sellShort(0, 1) = -200", "price(2, 300) = 100", "liquidate(0) = 4",
                "position(0, 0) = 0", "position(0, 1) = 0", "position(0, 2) = 0", "position(0, 3) = 0",
                "clientOf(0, 0) = -200");
        Script.run("promise 14, a worth of 1",
                "buy(0, 0, 1) = -100", "price(0, 1) = 100", "liquidate(0) = 1", "clientOf(0, 0) = -99");
        Script.run("promise 14, failed",
                "fail(0) = 0", "liquidate(0) = state");
    }

    private static void promise15() {
        Script.run("promise 15",
                "cash(0, 100) = 100", "buy(0, 0, 10) = -900", "buy(0, 2, 10) = -1900", "price(0, 90) = 100",
                "offer(1, 1, 7, 0) = 7", "locate(0, 1, 7) = 0", "sellShort(0, 7) = -1200", "fail(0) = 0",
                "clientOf(0, 0) = 0", "clientOf(0, 4) = 1", "position(0, 0) = 0", "position(0, 1) = 0",
                "position(0, 2) = 0", "lenderOf(1, 1, 0) = 7", "count(3) = 0", "fail(0) = state", "fail(-1) = index",
                "fail(6) = index", "clientOf(1, 4) = 0", "fail(1) = 0", "fail(1) = state");
        Script.run("promise 15, what it has stays, what lacks is lost",
                "cash(0, 5000) = 5000", "buy(0, 0, 10) = 4000", "fail(0) = 0", "clientOf(0, 0) = 5000",
                "clientOf(0, 1) = 5000", "clientOf(0, 2) = 0", "clientOf(0, 3) = 0", "buy(1, 0, 10) = -1000",
                "price(0, 33) = 100", "fail(1) = 670", "count(3) = 670", "clientOf(1, 0) = 0",
                "buy(2, 0, 10) = -330", "price(0, 32) = 33", "fail(2) = 10", "count(3) = 680");
        Script.run("promise 15, lent shares are called back and replaced",
                "buy(0, 0, 10) = -1000", "allow(0, true) = false", "locate(1, 0, 10) = 0", "sellShort(0, 10) = 1000",
                "offer(2, 0, 6, 30) = 6", "fail(0) = 0", "position(1, 0) = -6", "loanOf(1, 1) = 12", "loanOf(1, 3) = 6",
                "count(2) = 4", "clientOf(1, 0) = 580", "part(0, 0) = 0", "partAnew(0, 0) = 0");
        Script.run("promise 15, one share short",
                "offer(2, 3, 1, 0) = 1", "locate(0, 3, 1) = 0", "sellShort(0, 1) = 100", "fail(0) = 0",
                "position(0, 3) = 0", "lenderOf(2, 3, 0) = 1", "count(1) = 0");
        Script.run("promise 15, of another that failed nothing changes",
                "buy(0, 0, 10) = -1000", "allow(0, true) = false", "locate(1, 0, 10) = 0", "sellShort(0, 10) = 1000",
                "fail(1) = 0", "part(0, 0) = 10", "partAnew(0, 0) = 10", "clientOf(1, 0) = 0", "locateOf(0, 3) = 0",
                "clientOf(0, 0) = -1000", "count(2) = 0");
    }

    private static void promise16() {
        Script.run("promise 16", "day() = 0", "pass(7) = 7", "day() = 7", "pass(50) = 57", "day() = 57",
                "pass(51) = argument", "day() = 57");
    }

    private static void promises17To19() {
        List<String> lines = new ArrayList<>(Arrays.asList(
                "buy(0, 3, 40) = -4000", "buy(5, 3, 8) = -800", "allow(0, true) = false", "locate(2, 3, 15) = 0",
                "sellShort(0, 15) = 1500", "position(0, 3) = 40", "position(2, 3) = -15", "position(5, 3) = 8",
                "position(0, 2) = 0", "part(0, 3) = 25", "part(2, 3) = 0", "part(5, 3) = 8", "part(0, 2) = 0",
                "partAnew(0, 3) = 25", "partAnew(2, 3) = 0", "partAnew(5, 3) = 8", "partAnew(0, 2) = 0",
                "buy(2, 3, 10) = 500", "part(0, 3) = 35", "partAnew(0, 3) = 35", "sell(0, 3, 36) = -400",
                "part(0, 3) = 0", "partAnew(0, 3) = 0", "position(0, 3) = 4", "position(2, 3) = -4",
                "allow(5, true) = false", "sell(0, 3, 4) = 0", "part(5, 3) = 4", "partAnew(5, 3) = 4",
                "position(2, 3) = -4"));
        for (String name : new String[] {"position", "part", "partAnew"}) {
            for (String place : new String[] {"(-1, 0)", "(6, 0)", "(0, -1)", "(0, 4)", "(6, 4)"}) {
                lines.add(name + place + " = index");
            }
        }
        Script.run("promises 17 to 19", lines.toArray(new String[0]));
        lines.clear();
        for (int client = 0; client < 6; client++) {
            lines.add("buy(" + client + ", 1, 500) = -50000");
        }
        for (int client = 0; client < 6; client++) {
            lines.add("part(" + client + ", 1) = 500");
            lines.add("partAnew(" + client + ", 1) = 500");
        }
        lines.addAll(Arrays.asList("stockOf(1, 1) = 3000", "stockOf(1, 3) = 3000", "sell(5, 1, 500) = 0",
                "partAnew(5, 1) = 0", "partAnew(0, 1) = 500", "buy(5, 1, 1) = -100", "partAnew(5, 1) = 1"));
        Script.run("promise 19, all the shares there can be", lines.toArray(new String[0]));
        Script.run("promise 19, the same share is lent, comes back and is lent again",
                "buy(0, 0, 3) = -300", "buy(1, 0, 2) = -200", "allow(0, true) = false", "allow(1, true) = false",
                "locate(2, 0, 4) = 0", "sellShort(0, 4) = 400", "partAnew(0, 0) = 0", "partAnew(1, 0) = 1",
                "buy(2, 0, 6) = -200", "partAnew(0, 0) = 3", "partAnew(1, 0) = 2", "partAnew(2, 0) = 2",
                "sell(0, 0, 3) = 0", "partAnew(0, 0) = 0", "partAnew(2, 0) = 2", "allow(2, true) = false",
                "locate(0, 0, 4) = 1", "sellShort(1, 3) = 300", "partAnew(1, 0) = 0", "partAnew(2, 0) = 1",
                "part(2, 0) = 1", "fail(2) = 0", "partAnew(2, 0) = 0", "partAnew(1, 0) = 0", "position(0, 0) = -2");
    }

    private static void promise20() {
        Script.run("promise 20",
                "price(0, 3) = 100", "buy(0, 0, 3) = -9", "clientOf(0, 2) = 4", "clientOf(0, 1) = 0",
                "clientOf(0, 3) = 1", "clientOf(0, 0) = -9", "clientOf(0, 4) = 0", "price(0, 19) = 3",
                "clientOf(0, 2) = 33", "clientOf(0, 1) = 48", "clientOf(0, 3) = 0",
                "clientOf(-1, 0) = index", "clientOf(6, 0) = index", "clientOf(6, 5) = index",
                "clientOf(0, -1) = argument", "clientOf(0, 5) = argument");
        Script.run("promise 20, each division is rounded down by itself",
                "price(0, 19) = 100", "buy(0, 0, 1) = -19", "clientOf(0, 2) = 10", "margin(0, 33) = 50",
                "clientOf(0, 2) = 7");
        Script.run("promise 20, more than half of the worths, without sign",
                "buy(0, 0, 10) = -1000", "offer(0, 1, 30, 0) = 30", "locate(0, 1, 30) = 0", "sellShort(0, 10) = 0",
                "clientOf(0, 2) = 1000", "clientOf(0, 1) = 0", "price(1, 101) = 100", "clientOf(0, 2) = 1106",
                "clientOf(0, 1) = -10", "price(0, 102) = 100", "clientOf(0, 2) = 1117", "clientOf(0, 1) = 10",
                "buy(0, 2, 1) = -100", "clientOf(0, 2) = 1065", "margin(1, 100) = 50", "clientOf(0, 2) = 1570");
        Script.run("promise 20, just more than half",
                "price(0, 51) = 100", "price(1, 50) = 100", "buy(0, 0, 1) = -51", "buy(0, 1, 1) = -101",
                "clientOf(0, 2) = 55");
    }

    private static void promise21() {
        Script.run("promise 21",
                "offer(2, 1, 40, 3600) = 40", "offer(2, 0, 10, 0) = 10", "locate(0, 1, 15) = 0",
                "sellShort(0, 15) = 1500", "lenderOf(2, 1, 0) = 25", "lenderOf(2, 1, 1) = 15", "lenderOf(2, 1, 2) = 3600",
                "lenderOf(2, 1, 3) = 0", "lenderOf(2, 0, 0) = 10", "lenderOf(2, 0, 1) = 0", "lenderOf(2, 0, 2) = 0",
                "pass(3) = 3", "lenderOf(2, 1, 3) = 3", "lenderOf(2, 3, 3) = 3", "lenderOf(1, 1, 0) = 0",
                "lenderOf(-1, 0, 0) = index", "lenderOf(4, 0, 0) = index", "lenderOf(0, -1, 0) = index",
                "lenderOf(0, 4, 0) = index", "lenderOf(0, 4, 4) = index", "lenderOf(0, 0, -1) = argument",
                "lenderOf(0, 0, 4) = argument");
    }

    private static void promise22() {
        Script.run("promise 22",
                "buy(0, 2, 20) = -2000", "buy(1, 2, 30) = -3000", "allow(0, true) = false", "offer(0, 2, 9, 1) = 9",
                "offer(1, 2, 2, 2) = 2", "locate(3, 2, 25) = 0", "locate(4, 2, 5) = 1", "sellShort(0, 25) = 2500",
                "sellShort(1, 5) = 500", "stockOf(2, 0) = 100", "stockOf(2, 1) = 50", "stockOf(2, 2) = 30",
                "stockOf(2, 3) = 30", "stockOf(2, 4) = 20", "stockOf(2, 5) = 10", "stockOf(2, 6) = 50",
                "stockOf(1, 1) = 0", "offer(0, 3, 4, 0) = 4", "locate(0, 3, 3) = 2", "sellShort(2, 3) = -1700",
                "stockOf(3, 2) = 3", "stockOf(3, 1) = 0", "stockOf(3, 5) = 3", "stockOf(-1, 0) = index", "stockOf(4, 0) = index", "stockOf(4, 7) = index",
                "stockOf(0, -1) = argument", "stockOf(0, 7) = argument");
    }

    private static void promise23() {
        Script.run("promise 23",
                "loanOf(0, 0) = index", "loanOf(0, 9) = index", "buy(1, 3, 4) = -400", "allow(1, true) = false",
                "offer(3, 3, 6, 77) = 6", "locate(5, 3, 10) = 0", "sellShort(0, 8) = 800",
                "loanOf(0, 0) = 3", "loanOf(0, 1) = 1", "loanOf(0, 2) = 5", "loanOf(0, 3) = 4", "loanOf(0, 4) = 0",
                "loanOf(1, 0) = 3", "loanOf(1, 1) = 13", "loanOf(1, 2) = 5", "loanOf(1, 3) = 4", "loanOf(1, 4) = 77",
                "loanOf(2, 0) = index", "loanOf(-1, 0) = index", "loanOf(2, 5) = index", "loanOf(0, 5) = argument",
                "loanOf(0, -1) = argument", "buy(5, 3, 4) = 400", "loanOf(1, 3) = 0", "loanOf(1, 1) = 13",
                "loanOf(1, 4) = 77", "loanOf(0, 3) = 4");
    }

    private static void promise24() {
        Script.run("promise 24",
                "locateOf(0, 0) = index", "locateOf(0, 7) = index", "offer(0, 1, 9, 0) = 9", "locate(4, 1, 8) = 0",
                "locate(2, 1, 5) = 1", "locateOf(0, 0) = 4", "locateOf(0, 1) = 1", "locateOf(0, 2) = 8",
                "locateOf(0, 3) = 1", "locateOf(1, 0) = 2", "locateOf(1, 2) = 5", "sellShort(0, 3) = 300",
                "locateOf(0, 2) = 8", "locateOf(0, 3) = 0", "locateOf(1, 3) = 1", "pass(1) = 1", "locateOf(1, 3) = 1",
                "pass(1) = 2", "locateOf(1, 3) = 0", "locateOf(1, 0) = 2", "locateOf(2, 0) = index",
                "offer(1, 3, 2, 0) = 2", "locateOf(-1, 0) = index", "locateOf(2, 4) = index", "locateOf(0, 4) = argument",
                "locateOf(0, -1) = argument", "locate(3, 1, 1) = 2", "buy(3, 1, 1) = -100", "locateOf(2, 3) = 1",
                "fail(3) = 0", "locateOf(2, 3) = 1", "locate(1, 3, 2) = 3", "locateOf(3, 1) = 3", "locateOf(3, 2) = 2");
    }

    private static void promise25() {
        Script.run("promise 25",
                "buy(0, 0, 6) = -600", "allow(0, true) = false", "offer(0, 0, 6, 1) = 6", "locate(1, 0, 12) = 0",
                "sellShort(0, 12) = 1200", "count(0) = 2", "count(1) = 2", "buy(1, 0, 7) = 500", "count(0) = 2",
                "count(1) = 1", "sell(0, 0, 4) = -200", "count(2) = 0", "count(0) = 3", "recall(0, 0, 3, 1) = 0",
                "count(4) = 0", "pass(1) = 1", "count(4) = 1", "count(2) = 3", "count(0) = 3", "fail(1) = 15",
                "count(3) = 15", "count(1) = 0", "count(-1) = argument", "count(5) = argument");
    }

    /** Behind the 1000th loan nothing is borrowed, and one who has lent can only have it bought in. */
    private static void mostLoans() {
        List<String> lines = new ArrayList<>(Arrays.asList("buy(0, 0, 500) = -50000", "buy(1, 0, 500) = -50000",
                "allow(0, true) = false", "allow(1, true) = false"));
        for (int i = 0; i < 49; i++) {
            lines.add("locate(2, 0, 1) = " + i);
            lines.add("sellShort(" + i + ", 1) = " + 100 * (i + 1));
        }
        for (int k = 0; k < 19; k++) {
            lines.add("sell(" + k % 2 + ", 0, 500) = 0");
            lines.add("count(0) = " + 49 * (k + 2));
            lines.add("buy(" + k % 2 + ", 0, 500) = -50000");
        }
        int loans = 980;
        int locate = 49;
        for (int k = 0; k < 4; k++) {
            int stock = 1 + k % 2;
            for (int lender = 0; lender < 4; lender++) {
                lines.add("offer(" + lender + ", " + stock + ", 5, " + lender + ") = 5");
            }
            lines.add("locate(3, " + stock + ", 20) = " + locate);
            lines.add("sellShort(" + locate + ", 20) = " + 2000 * (k + 1));
            locate++;
            loans += 4;
            lines.add("count(0) = " + loans);
        }
        lines.addAll(Arrays.asList("offer(0, 3, 5, 40) = 5", "offer(1, 3, 5, 30) = 5", "offer(2, 3, 5, 20) = 5",
                "offer(3, 3, 5, 10) = 5", "locate(4, 3, 20) = 53", "locate(5, 3, 1) = 54", "sellShort(54, 1) = 100",
                "count(0) = 997", "locate(4, 3, 15) = state", "locate(4, 3, 14) = 55", "sellShort(53, 15) = state",
                "sellShort(53, 10) = 1000", "count(0) = 1000", "sellShort(55, 1) = state", "locate(4, 3, 1) = state",
                "count(1) = 69", "loanOf(999, 1) = 11", "loanOf(999, 3) = 1", "loanOf(1000, 1) = index", "position(2, 0) = -49",
                "part(1, 0) = 451", "part(0, 0) = 500", "sell(1, 0, 452) = -4800", "count(2) = 1",
                "position(2, 0) = -48", "loanOf(979, 3) = 0", "loanOf(978, 3) = 1", "clientOf(2, 0) = 4795",
                "sell(1, 0, 48) = 0", "count(0) = 1000", "count(2) = 49", "position(2, 0) = 0", "part(0, 0) = 500",
                "partAnew(0, 0) = 500", "recall(3, 3, 9, 1) = 0", "pass(1) = 1", "position(4, 3) = -6",
                "position(5, 3) = 0", "lenderOf(3, 3, 0) = 0", "buy(4, 3, 6) = -20", "lenderOf(2, 3, 0) = 5"));
        Script.run("1000 loans", lines.toArray(new String[0]));
    }
}
