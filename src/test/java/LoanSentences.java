import java.util.ArrayList;
import java.util.Arrays;
import java.util.List;

/** The sentences of the terms that tell of boxes and loans, and of shares that are called back. */
final class LoanSentences {
    private static final String TERMS = Document.TERMS;

    private LoanSentences() {
    }

    static void all() {
        boxes();
        borrowedFromParts();
        borrowedFromPools();
        loansMade();
        loansGivenBack();
        soldOutOfThePart();
        replaced();
        boughtIn();
        mostLoans();
        lastLoanGoesToTheFirst();
    }

    private static void boxes() {
        Script.run(TERMS, "The box of a stock has all shares that its long clients have, but those of them that are lent.",
                "stockOf(0, 3) = 0", "buy(0, 0, 4) = -400", "buy(1, 0, 3) = -300", "stockOf(0, 3) = 7", "allow(0, true) = false",
                "offer(0, 0, 5, 0) = 5", "stockOf(0, 3) = 7", "locate(2, 0, 9) = 0", "sellShort(0, 3) = 300",
                "stockOf(0, 3) = 4", "part(0, 0) = 1", "allow(1, true) = false", "locate(3, 0, 9) = 1", "sellShort(1, 3) = 300",
                "stockOf(0, 3) = 1", "part(0, 0) = 0", "part(1, 0) = 1", "locate(4, 0, 1) = 2", "sellShort(2, 1) = 100",
                "stockOf(0, 3) = 0", "stockOf(0, 4) = 7", "stockOf(0, 5) = 0", "buy(2, 0, 1) = 200", "stockOf(0, 3) = 1",
                "stockOf(1, 3) = 0");
        Script.run(TERMS, "what a client borrows of a stock are just the shares that it is short", "buy(0, 0, 4) = -400",
                "allow(0, true) = false", "offer(0, 0, 5, 9) = 5", "locate(2, 0, 9) = 0", "sellShort(0, 8) = 800",
                "position(2, 0) = -8", "loanOf(0, 3) = 4", "loanOf(1, 3) = 4", "sell(0, 0, 2) = -200", "position(2, 0) = -7",
                "loanOf(0, 3) = 2", "loanOf(1, 3) = 4", "loanOf(2, 3) = 1", "recall(0, 0, 3, 1) = 0", "pass(1) = 1",
                "position(2, 0) = -4", "loanOf(0, 3) = 2", "loanOf(1, 3) = 2", "loanOf(2, 3) = 0", "buy(2, 0, 3) = 80",
                "position(2, 0) = -1", "loanOf(0, 3) = 1", "loanOf(1, 3) = 0", "count(0) = 3", "buy(2, 0, 2) = -120",
                "position(2, 0) = 1", "loanOf(0, 3) = 0", "count(1) = 0");
    }

    private static void borrowedFromParts() {
        Script.run(TERMS, "from parts of the box that may be lent", "buy(0, 0, 5) = -500", "buy(1, 0, 5) = -500",
                "locate(4, 0, 1) = state", "allow(1, true) = false", "locate(4, 0, 6) = state", "locate(4, 0, 5) = 0",
                "sellShort(0, 5) = 500", "loanOf(0, 1) = 1", "count(0) = 1", "part(0, 0) = 5", "part(1, 0) = 0",
                "buy(1, 1, 5) = -1000", "locate(4, 0, 1) = state");
        Script.run(TERMS, "of clients other than the one who borrows", "buy(0, 0, 5) = -500", "allow(0, true) = false",
                "locate(0, 0, 1) = state", "locate(1, 0, 5) = 0", "buy(1, 0, 3) = -300", "allow(1, true) = false",
                "locate(0, 0, 4) = state", "locate(0, 0, 3) = 1", "locate(1, 0, 6) = state", "locate(2, 0, 8) = 2",
                "sell(0, 0, 5) = 0", "sellShort(1, 2) = 200", "loanOf(0, 1) = 1", "loanOf(0, 2) = 0", "part(1, 0) = 1");
        Script.run(TERMS, "by rising numbers, as far as they are there", "buy(5, 0, 5) = -500", "buy(1, 0, 5) = -500",
                "allow(5, true) = false", "allow(1, true) = false", "locate(3, 0, 10) = 0", "locate(3, 0, 5) = 1",
                "sellShort(1, 5) = 500", "count(0) = 1", "loanOf(0, 1) = 1", "loanOf(0, 3) = 5", "part(5, 0) = 5",
                "sellShort(0, 5) = 1000", "count(0) = 2", "loanOf(1, 1) = 5", "loanOf(1, 3) = 5", "part(5, 0) = 0");
        Script.run(TERMS, "by rising numbers, as far as they are there", "buy(5, 0, 5) = -500", "buy(1, 0, 5) = -500",
                "allow(5, true) = false", "allow(1, true) = false", "locate(3, 0, 6) = 0", "sellShort(0, 6) = 600",
                "count(0) = 2", "loanOf(0, 1) = 1", "loanOf(0, 3) = 5", "loanOf(1, 1) = 5", "loanOf(1, 3) = 1", "part(5, 0) = 4");
    }

    private static void borrowedFromPools() {
        String words = "then from the pools of lenders, by rising fees, of several the lowest first";
        Script.run(TERMS, words, "buy(4, 2, 3) = -300", "allow(4, true) = false", "buy(2, 2, 4) = -400",
                "allow(2, true) = false", "buy(0, 2, 5) = -500", "offer(3, 2, 6, 20) = 6", "offer(2, 2, 7, 10) = 7",
                "offer(1, 2, 8, 20) = 8", "offer(0, 2, 0, 0) = 0", "locate(3, 2, 28) = 0", "locate(3, 2, 29) = state",
                "sellShort(0, 27) = 2700", "count(0) = 5", "loanOf(0, 1) = 2", "loanOf(0, 3) = 4", "loanOf(1, 1) = 4",
                "loanOf(1, 3) = 3", "loanOf(2, 1) = 12", "loanOf(2, 3) = 7", "loanOf(3, 1) = 11", "loanOf(3, 3) = 8",
                "loanOf(4, 1) = 13", "loanOf(4, 3) = 5", "loanOf(4, 4) = 20", "loanOf(1, 4) = 0", "lenderOf(3, 2, 0) = 1",
                "part(0, 2) = 5", "part(2, 2) = 0", "partAnew(2, 2) = 0", "partAnew(4, 2) = 0");
        Script.run(TERMS, words, "offer(0, 0, 2, 10000) = 2", "offer(1, 0, 2, 0) = 2", "offer(2, 0, 2, 9999) = 2",
                "offer(3, 0, 2, 0) = 2", "buy(5, 0, 1) = -100", "allow(5, true) = false", "locate(0, 0, 9) = 0",
                "sellShort(0, 9) = 900", "loanOf(0, 1) = 5", "loanOf(1, 1) = 11", "loanOf(2, 1) = 13", "loanOf(3, 1) = 12",
                "loanOf(4, 1) = 10", "count(0) = 5");
        Script.run(TERMS, words, "offer(0, 0, 2, 7) = 2", "offer(1, 0, 2, 7) = 2", "offer(2, 0, 2, 7) = 2",
                "offer(3, 0, 2, 7) = 2", "locate(0, 0, 8) = 0", "sellShort(0, 8) = 800", "loanOf(0, 1) = 10",
                "loanOf(1, 1) = 11", "loanOf(2, 1) = 12", "loanOf(3, 1) = 13", "count(0) = 4");
        List<String> nine = new ArrayList<>();
        for (int client = 0; client < 5; client++) {
            nine.add("buy(" + client + ", 0, 1) = -100");
            nine.add("allow(" + client + ", true) = false");
        }
        for (int lender = 0; lender < 4; lender++) {
            nine.add("offer(" + lender + ", 0, 1, " + (9 - lender) + ") = 1");
        }
        nine.addAll(List.of("locate(5, 0, 10) = state", "locate(5, 0, 9) = 0", "sellShort(0, 9) = 900", "count(0) = 9",
                "loanOf(0, 1) = 0", "loanOf(4, 1) = 4", "loanOf(5, 1) = 13", "loanOf(8, 1) = 10", "stockOf(0, 3) = 0"));
        Script.run(TERMS, words, nine.toArray(new String[0]));
        Script.run(TERMS, words, "offer(0, 0, 4, 7) = 4", "offer(1, 0, 4, 8) = 4", "locate(0, 0, 8) = 0",
                "locate(0, 0, 3) = 1", "locate(0, 0, 3) = 2", "sellShort(1, 3) = 300", "loanOf(0, 1) = 10",
                "offer(0, 0, 0, 9) = 1", "sellShort(2, 3) = 600", "loanOf(1, 1) = 11", "loanOf(1, 4) = 8", "offer(0, 1, 9, 0) = 9",
                "locate(1, 0, 2) = 3", "sellShort(3, 2) = 200", "loanOf(2, 1) = 11", "loanOf(3, 1) = 10", "loanOf(3, 4) = 9");
    }

    private static void loansMade() {
        Script.run(TERMS, "Each part or pool from which some come makes a loan", "offer(0, 0, 0, 0) = 0",
                "offer(1, 0, 3, 1) = 3", "offer(2, 0, 3, 2) = 3", "allow(0, true) = false", "allow(1, true) = false",
                "buy(1, 0, 2) = -200", "locate(2, 0, 8) = 0", "locate(2, 0, 8) = 1", "locate(3, 0, 4) = 2", "count(0) = 0",
                "sellShort(0, 5) = 500", "count(0) = 2", "loanOf(0, 1) = 1", "loanOf(1, 1) = 11", "loanOf(1, 3) = 3",
                "sellShort(1, 1) = 600", "count(0) = 3", "loanOf(2, 1) = 12", "loanOf(2, 3) = 1", "sellShort(2, 2) = 200",
                "count(0) = 4", "loanOf(3, 1) = 12", "loanOf(3, 2) = 3", "loanOf(3, 3) = 2");
        Script.run(TERMS, "A loan from a lender has the fee that is told then; one from the box has none.",
                "offer(3, 0, 2, 10000) = 2", "buy(1, 0, 1) = -100", "allow(1, true) = false", "locate(0, 0, 3) = 0",
                "locate(2, 0, 1) = 1", "offer(3, 0, 0, 9999) = 2", "sellShort(0, 2) = 200", "offer(3, 0, 0, 1) = 1",
                "sellShort(1, 1) = 100", "loanOf(0, 1) = 1", "loanOf(0, 4) = 0", "loanOf(1, 4) = 9999", "loanOf(2, 4) = 1",
                "offer(3, 0, 0, 5) = 0", "loanOf(1, 4) = 9999", "loanOf(2, 4) = 1", "lenderOf(3, 0, 2) = 5");
        Script.run(TERMS, "Loans are numbered from 0, at most 1000, those that are over with them", "offer(0, 0, 2, 0) = 2",
                "locate(0, 0, 2) = 0", "locate(0, 0, 2) = 1", "sellShort(0, 1) = 100", "count(0) = 1", "buy(0, 0, 1) = 0",
                "count(0) = 1", "loanOf(0, 3) = 0", "sellShort(1, 2) = 200", "count(0) = 2", "loanOf(0, 3) = 0",
                "loanOf(1, 3) = 2", "loanOf(2, 3) = index");
    }

    private static void loansGivenBack() {
        String words = "its loans of that are given back, by falling fees (those from the box are 0), of like ones the latest first";
        Script.run(TERMS, words, "buy(0, 0, 5) = -500", "allow(0, true) = false", "offer(0, 0, 5, 100) = 5",
                "offer(1, 0, 5, 300) = 5", "offer(2, 0, 5, 0) = 5", "locate(3, 0, 20) = 0", "sellShort(0, 20) = 2000",
                "loanOf(0, 1) = 0", "loanOf(1, 1) = 12", "loanOf(2, 1) = 10", "loanOf(3, 1) = 11", "buy(3, 0, 7) = 1300",
                "loanOf(3, 3) = 0", "loanOf(2, 3) = 3", "loanOf(1, 3) = 5", "lenderOf(1, 0, 0) = 5", "lenderOf(0, 0, 0) = 2",
                "lenderOf(0, 0, 1) = 3", "position(3, 0) = -13", "buy(3, 0, 4) = 900", "loanOf(2, 3) = 0", "loanOf(1, 3) = 4",
                "loanOf(0, 3) = 5", "buy(3, 0, 5) = 400", "loanOf(1, 3) = 0", "loanOf(0, 3) = 4", "part(0, 0) = 1",
                "partAnew(0, 0) = 1", "count(1) = 1", "buy(3, 0, 6) = -200", "count(1) = 0", "count(0) = 4",
                "position(3, 0) = 2", "part(3, 0) = 2", "partAnew(3, 0) = 2", "part(0, 0) = 5", "partAnew(0, 0) = 5");
        Script.run(TERMS, words, "offer(0, 0, 4, 70) = 4", "offer(1, 0, 4, 70) = 4", "locate(0, 0, 6) = 0",
                "sellShort(0, 6) = 600", "locate(1, 0, 2) = 1", "sellShort(1, 2) = 200", "offer(0, 1, 3, 90) = 3",
                "locate(0, 1, 3) = 2", "sellShort(2, 3) = 900", "buy(0, 0, 3) = 600", "loanOf(1, 3) = 0", "loanOf(0, 3) = 3",
                "loanOf(2, 3) = 2", "loanOf(3, 3) = 3");
        Script.run(TERMS, words, "offer(0, 0, 2, 300) = 2", "locate(1, 0, 2) = 0", "locate(2, 0, 1) = 1",
                "sellShort(0, 1) = 100", "sellShort(1, 1) = 100", "offer(1, 0, 2, 100) = 2", "locate(1, 0, 2) = 2",
                "sellShort(2, 2) = 300", "buy(1, 0, 1) = 200", "loanOf(0, 3) = 0", "loanOf(2, 3) = 2", "buy(1, 0, 1) = 100",
                "loanOf(2, 3) = 1", "loanOf(1, 3) = 1", "buy(1, 0, 1) = 0", "loanOf(2, 3) = 0", "loanOf(1, 3) = 1",
                "count(1) = 1", "lenderOf(0, 0, 0) = 1", "lenderOf(1, 0, 0) = 2");
        Script.run(TERMS, "(those from the box are 0)", "offer(0, 0, 2, 0) = 2", "locate(1, 0, 2) = 0", "sellShort(0, 2) = 200",
                "buy(0, 0, 2) = -200", "allow(0, true) = false", "locate(1, 0, 2) = 1", "sellShort(1, 2) = 400",
                "offer(1, 0, 2, 1) = 2", "locate(1, 0, 2) = 2", "sellShort(2, 2) = 600", "offer(2, 0, 2, 0) = 2",
                "locate(1, 0, 2) = 3", "sellShort(3, 2) = 800", "buy(1, 0, 3) = 500", "loanOf(2, 3) = 0", "loanOf(3, 3) = 1",
                "buy(1, 0, 2) = 300", "loanOf(3, 3) = 0", "loanOf(1, 3) = 1", "part(0, 0) = 1", "buy(1, 0, 2) = 100",
                "loanOf(1, 3) = 0", "loanOf(0, 3) = 1", "lenderOf(0, 0, 0) = 1");
        Script.run(TERMS, "a loan of which some are given back is the less; one without shares is over",
                "offer(0, 0, 3, 5) = 3", "locate(1, 0, 3) = 0", "sellShort(0, 3) = 300", "count(1) = 1", "buy(1, 0, 2) = 100",
                "loanOf(0, 3) = 1", "count(1) = 1", "buy(1, 0, 1) = 0", "loanOf(0, 3) = 0", "count(1) = 0", "count(0) = 1",
                "price(0, 100000) = 100", "pass(50) = 50", "clientOf(1, 0) = 0", "locate(1, 0, 3) = 1",
                "sellShort(1, 3) = 300000", "loanOf(0, 3) = 0", "loanOf(1, 3) = 3");
    }

    private static void soldOutOfThePart() {
        String words = "Shares that are sold come out of the own part of the box; if so many are not there, as they are lent, "
            + "so many are called back from the loans of that part, the latest first";
        Script.run(TERMS, words, "buy(0, 1, 50) = -5000", "allow(0, true) = false", "locate(1, 1, 50) = 0",
                "sellShort(0, 20) = 2000", "locate(2, 1, 10) = 1", "sellShort(1, 10) = 1000", "part(0, 1) = 20",
                "sell(0, 1, 20) = -3000", "count(2) = 0", "part(0, 1) = 0", "loanOf(1, 3) = 10", "sell(0, 1, 1) = -2900",
                "count(2) = 1", "part(0, 1) = 0", "loanOf(1, 3) = 9", "sell(0, 1, 10) = -1900", "loanOf(1, 3) = 0",
                "loanOf(0, 3) = 19", "position(2, 1) = 0", "position(1, 1) = -19", "sell(0, 1, 19) = 0", "loanOf(0, 3) = 0",
                "count(2) = 30", "stockOf(1, 4) = 0");
        Script.run(TERMS, words, "buy(0, 1, 50) = -5000", "allow(0, true) = false", "locate(1, 1, 50) = 0",
                "sellShort(0, 20) = 2000", "locate(2, 1, 10) = 1", "sellShort(1, 10) = 1000", "part(0, 1) = 20",
                "sell(0, 1, 20) = -3000", "count(2) = 0", "part(0, 1) = 0", "offer(3, 1, 4, 40) = 4", "buy(0, 1, 2) = -3200",
                "sell(0, 1, 9) = -2300", "loanOf(1, 3) = 3", "loanOf(0, 3) = 20", "loanOf(2, 1) = 13",
                "loanOf(2, 2) = 2", "loanOf(2, 3) = 4", "loanOf(2, 4) = 40", "count(2) = 3", "position(2, 1) = -7",
                "clientOf(2, 0) = 685", "clientOf(1, 0) = 2000", "position(0, 1) = 23", "part(0, 1) = 0",
                "partAnew(0, 1) = 0", "allow(0, false) = true", "sell(0, 1, 23) = 0", "position(1, 1) = 0",
                "position(2, 1) = -4", "count(2) = 26", "clientOf(1, 0) = -100", "clientOf(2, 0) = 370",
                "stockOf(1, 4) = 0", "stockOf(1, 5) = 4");
        Script.run(TERMS, "called back from the loans of that part", "buy(0, 0, 4) = -400", "buy(1, 0, 4) = -400",
                "buy(0, 1, 4) = -800", "allow(0, true) = false", "allow(1, true) = false", "locate(2, 0, 4) = 0",
                "sellShort(0, 4) = 400", "locate(3, 0, 4) = 1", "sellShort(1, 4) = 400", "locate(4, 1, 4) = 2",
                "sellShort(2, 4) = 400", "offer(0, 0, 3, 1) = 3", "locate(5, 0, 3) = 3", "sellShort(3, 3) = 300",
                "sell(0, 0, 3) = -500", "loanOf(0, 3) = 1", "loanOf(1, 3) = 4", "loanOf(2, 3) = 4", "loanOf(3, 3) = 3",
                "count(2) = 3", "position(2, 0) = -1");
    }

    private static void replaced() {
        String words = "each is replaced by others, borrowed as told, of whom the client is not one, as far as there are some";
        Script.run(TERMS, words, "buy(3, 0, 10) = -1000", "allow(3, true) = false", "locate(1, 0, 10) = 0",
                "sellShort(0, 10) = 1000", "buy(0, 0, 2) = -200", "buy(2, 0, 3) = -300", "buy(5, 0, 1) = -100",
                "allow(5, true) = false", "allow(2, true) = false", "offer(0, 0, 1, 9) = 1", "offer(1, 0, 2, 8) = 2",
                "offer(3, 0, 1, 8) = 1", "sell(3, 0, 10) = 0", "count(0) = 6", "loanOf(1, 1) = 2", "loanOf(1, 3) = 3",
                "loanOf(2, 1) = 5", "loanOf(3, 1) = 11", "loanOf(4, 1) = 13", "loanOf(5, 1) = 10", "loanOf(5, 4) = 9",
                "count(2) = 2", "position(1, 0) = -8", "part(0, 0) = 2", "partAnew(2, 0) = 0", "stockOf(0, 3) = 2");
        for (int there = 3; there <= 5; there++) {
            int replaced = Math.min(4, there);
            Script.run(TERMS, words, "buy(0, 0, 4) = -400", "allow(0, true) = false", "locate(1, 0, 4) = 0",
                    "sellShort(0, 4) = 400", "offer(0, 0, " + there + ", 5) = " + there, "sell(0, 0, 4) = 0", "count(0) = 2",
                    "loanOf(0, 3) = 0", "loanOf(1, 1) = 10", "loanOf(1, 3) = " + replaced, "count(2) = " + (4 - replaced),
                    "lenderOf(0, 0, 0) = " + (there - replaced), "clientOf(1, 0) = " + (400 - 105 * (4 - replaced)));
        }
        Script.run(TERMS, "of whom the client is not one", "buy(0, 0, 9) = -900", "allow(0, true) = false",
                "locate(1, 0, 4) = 0", "sellShort(0, 4) = 400", "sell(0, 0, 6) = -300", "part(0, 0) = 0", "count(2) = 1",
                "count(0) = 1", "buy(0, 0, 3) = -600", "sell(0, 0, 4) = -200", "count(2) = 2", "count(0) = 1", "part(0, 0) = 0",
                "position(0, 0) = 2", "position(1, 0) = -2");
        Script.run(TERMS, words, "buy(0, 0, 4) = -400", "allow(0, true) = false", "locate(1, 0, 2) = 0",
                "sellShort(0, 2) = 200", "locate(2, 0, 2) = 1", "sellShort(1, 2) = 200", "offer(2, 0, 3, 60) = 3",
                "sell(0, 0, 4) = 0", "count(0) = 4", "loanOf(2, 2) = 2", "loanOf(2, 3) = 2", "loanOf(3, 2) = 1",
                "loanOf(3, 3) = 1", "count(2) = 1", "position(1, 0) = -1", "position(2, 0) = -2", "clientOf(1, 0) = 95");
        Script.run(TERMS, words, "buy(0, 0, 5) = -500", "allow(0, true) = false", "locate(1, 0, 5) = 0",
                "sellShort(0, 5) = 500", "offer(2, 0, 3, 60) = 3", "sell(0, 0, 2) = -300", "loanOf(0, 3) = 3",
                "loanOf(1, 3) = 2", "sell(0, 0, 2) = -100", "loanOf(0, 3) = 1", "loanOf(2, 1) = 12", "loanOf(2, 3) = 1",
                "count(0) = 3", "count(2) = 1");
    }

    private static void boughtIn() {
        String words = "the rest is bought in, loan by loan: who borrowed it buys it, at 105 hundredths of the price of all that "
            + "is bought in of that loan, rounded up";
        Script.run(TERMS, words, "buy(0, 0, 61) = -6100", "allow(0, true) = false", "locate(1, 0, 20) = 0",
                "sellShort(0, 20) = 2000", "locate(2, 0, 19) = 1", "sellShort(1, 19) = 1900", "locate(3, 0, 1) = 2",
                "sellShort(2, 1) = 100", "locate(4, 0, 21) = 3", "sellShort(3, 21) = 2100", "price(0, 1) = 100",
                "sell(0, 0, 61) = -6039", "clientOf(1, 0) = 1979", "clientOf(2, 0) = 1880", "clientOf(3, 0) = 98",
                "clientOf(4, 0) = 2077", "count(2) = 61", "position(1, 0) = 0", "position(4, 0) = 0", "stockOf(0, 2) = 0");
        Script.run(TERMS, "loan by loan", "buy(0, 0, 2) = -200", "allow(0, true) = false", "locate(1, 0, 1) = 0",
                "locate(1, 0, 1) = 1", "sellShort(0, 1) = 100", "sellShort(1, 1) = 200", "price(0, 1) = 100",
                "sell(0, 0, 2) = -198", "clientOf(1, 0) = 196", "count(2) = 2");
        Script.run(TERMS, "at 105 hundredths of the price of all that is bought in of that loan, rounded up",
                "buy(0, 0, 4) = -400", "allow(0, true) = false", "locate(1, 0, 4) = 0", "sellShort(0, 4) = 400",
                "offer(0, 0, 2, 0) = 2", "price(0, 1) = 100", "sell(0, 0, 4) = -396", "clientOf(1, 0) = 397", "count(2) = 2");
        Script.run(TERMS, "who borrowed it buys it", "buy(0, 0, 500) = -50000", "allow(0, true) = false",
                "locate(1, 0, 500) = 0", "sellShort(0, 500) = 50000", "price(0, 99999) = 100", "sell(0, 0, 500) = 49949500",
                "clientOf(1, 0) = -52449475", "position(1, 0) = 0", "part(1, 0) = 0", "count(2) = 500");
        Script.run(TERMS, "each replaced as told (also not by that lender), or bought in", "offer(0, 0, 3, 0) = 3",
                "locate(1, 0, 1) = 0", "sellShort(0, 1) = 100", "locate(1, 0, 2) = 1", "sellShort(1, 2) = 300",
                "price(0, 1) = 100", "recall(0, 0, 3, 1) = 0", "pass(1) = 1", "clientOf(1, 0) = 295", "count(2) = 3");
    }

    /** Two clients hand a box of 49 loans of one share to and fro: 980 loans, the open ones from client 1's part. */
    private static List<String> manyLoans() {
        List<String> lines = new ArrayList<>(Arrays.asList("buy(0, 0, 500) = -50000", "buy(1, 0, 500) = -50000",
                "allow(0, true) = false", "allow(1, true) = false"));
        for (int i = 0; i < 49; i++) {
            lines.add("locate(2, 0, 1) = " + i);
            lines.add("sellShort(" + i + ", 1) = " + 100 * (i + 1));
        }
        for (int k = 0; k < 19; k++) {
            lines.add("sell(" + k % 2 + ", 0, 500) = 0");
            lines.add("buy(" + k % 2 + ", 0, 500) = -50000");
        }
        lines.add("count(0) = 980");
        lines.add("count(1) = 49");
        return lines;
    }

    private static void mostLoans() {
        String words = "when there are 1000, nothing is borrowed any more, and what can be borrowed is just what loans that can "
            + "still be made, in this order, would bring";
        List<String> lines = manyLoans();
        int loans = 980;
        int locate = 49;
        for (int k = 0; k < 4; k++) {
            int stock = 1 + k % 2;
            for (int lender = 0; lender < 4; lender++) {
                lines.add("offer(" + lender + ", " + stock + ", 5, " + lender + ") = 5");
            }
            lines.add("locate(3, " + stock + ", 20) = " + locate);
            lines.add("sellShort(" + locate + ", 20) = " + 2000 * (k + 1));
            locate++;
            loans += 4;
            lines.add("count(0) = " + loans);
        }
        lines.addAll(Arrays.asList("offer(0, 3, 5, 40) = 5", "offer(1, 3, 5, 30) = 5", "offer(2, 3, 5, 20) = 5",
                "offer(3, 3, 5, 10) = 5", "locate(4, 3, 20) = 53", "locate(5, 3, 1) = 54", "sellShort(54, 1) = 100",
                "count(0) = 997", "locate(4, 3, 15) = state", "locate(4, 3, 14) = 55", "sellShort(53, 15) = state",
                "sellShort(53, 10) = 1000", "count(0) = 1000", "sellShort(55, 1) = state", "locate(4, 3, 1) = state",
                "count(1) = 69", "loanOf(999, 1) = 11", "loanOf(999, 3) = 1", "loanOf(1000, 1) = index",
                "position(2, 0) = -49", "part(1, 0) = 451", "part(0, 0) = 500", "sell(1, 0, 452) = -4800", "count(2) = 1",
                "position(2, 0) = -48", "loanOf(979, 3) = 0", "loanOf(978, 3) = 1", "clientOf(2, 0) = 4795",
                "sell(1, 0, 48) = 0", "count(0) = 1000", "count(2) = 49", "position(2, 0) = 0", "part(0, 0) = 500",
                "partAnew(0, 0) = 500", "recall(3, 3, 9, 1) = 0", "pass(1) = 1", "position(4, 3) = -6",
                "position(5, 3) = 0", "lenderOf(3, 3, 0) = 0", "buy(4, 3, 6) = -20", "lenderOf(2, 3, 0) = 5"));
        Script.run(TERMS, words, lines.toArray(new String[0]));
        lines = manyLoans();
        lines.addAll(Arrays.asList("sell(1, 0, 470) = -3000", "count(0) = 999", "offer(0, 3, 5, 0) = 5",
                "offer(1, 3, 6, 1) = 6", "locate(4, 3, 6) = state", "locate(4, 3, 5) = 49", "locate(5, 3, 5) = 50",
                "sellShort(49, 4) = 400", "count(0) = 1000", "sellShort(50, 1) = state", "locate(5, 3, 1) = state",
                "buy(4, 3, 4) = 0", "locate(5, 3, 1) = state", "lenderOf(0, 3, 0) = 5", "loanOf(999, 3) = 0"));
        Script.run(TERMS, words, lines.toArray(new String[0]));
        lines = manyLoans();
        lines.addAll(Arrays.asList("sell(1, 0, 469) = -3100", "count(0) = 998", "sell(1, 0, 4) = -2700", "count(0) = 1000",
                "count(2) = 2", "position(2, 0) = -47", "clientOf(2, 0) = 4690", "locate(3, 0, 1) = state"));
        Script.run(TERMS, words, lines.toArray(new String[0]));
    }

    /** With one loan left to be made, what is closed first is replaced, and what is closed next is bought in. */
    private static void lastLoanGoesToTheFirst() {
        List<String> before = manyLoans();
        before.addAll(Arrays.asList("buy(3, 1, 5) = -500", "buy(3, 2, 6) = -1100", "allow(3, true) = false",
                "locate(4, 1, 5) = 49", "sellShort(49, 5) = 500", "locate(4, 2, 6) = 50", "sellShort(50, 6) = 1100",
                "sell(1, 0, 468) = -3200", "count(0) = 999", "offer(0, 1, 5, 0) = 5", "offer(0, 2, 6, 0) = 6"));
        List<String> failed = new ArrayList<>(before);
        failed.addAll(Arrays.asList("fail(3) = 0", "position(4, 1) = -5", "position(4, 2) = 0", "count(2) = 6",
                "loanOf(999, 0) = 1", "clientOf(4, 0) = 470"));
        Script.run(TERMS, "A client that fails closes all its positions, by rising stocks", failed.toArray(new String[0]));
        List<String> liquidated = new ArrayList<>(before);
        liquidated.addAll(Arrays.asList("liquidate(3) = 2", "position(4, 1) = 0", "position(4, 2) = -6", "count(2) = 5",
                "loanOf(999, 0) = 2", "clientOf(4, 0) = 575"));
        Script.run(TERMS, "close its positions, one after the other, the one of the greatest worth without sign first",
                liquidated.toArray(new String[0]));
    }
}
