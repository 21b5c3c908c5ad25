import java.util.ArrayList;
import java.util.Comparator;
import java.util.List;

/**
 * The document once more, written for plainness alone: every share is an object that knows whose
 * it is and by which loan it is out. Positions, parts and pools are not kept, but counted.
 */
final class Model {
    private static final class Share {
        final int stock;
        final int owner;
        Loan out;

        Share(int stock, int owner) {
            this.stock = stock;
            this.owner = owner;
        }
    }

    private static final class Loan {
        final int number;
        final int stock;
        final int from;
        final int to;
        final int fee;

        Loan(int number, int stock, int from, int to, int fee) {
            this.number = number;
            this.stock = stock;
            this.from = from;
            this.to = to;
            this.fee = fee;
        }
    }

    private static final class Locate {
        final int client;
        final int stock;
        final int shares;
        final int given;
        boolean used;

        Locate(int client, int stock, int shares, int given) {
            this.client = client;
            this.stock = stock;
            this.shares = shares;
            this.given = given;
        }
    }

    private static final class Recall {
        final int lender;
        final int stock;
        final int shares;
        final int due;

        Recall(int lender, int stock, int shares, int due) {
            this.lender = lender;
            this.stock = stock;
            this.shares = shares;
            this.due = due;
        }
    }

    private final int[] price = {100, 100, 100, 100};
    private final int[] margin = {50, 50, 50, 50};
    private final long[] cash = new long[6];
    private final boolean[] may = new boolean[6];
    private final boolean[] failed = new boolean[6];
    private final int[][] fee = new int[4][4];
    private final long[] got = new long[4];
    private final List<Share> shares = new ArrayList<>();
    private final List<Loan> loans = new ArrayList<>();
    private final List<Locate> locates = new ArrayList<>();
    private final List<Recall> recalls = new ArrayList<>();
    private int day;
    private long boughtIn;
    private long lost;
    private long met;
    /** How often shares that were called back are replaced, for the tests to see what they reach. */
    long replaced;

    private static void there(int number, int size) {
        if (number < 0 || number >= size) {
            throw new IndexOutOfBoundsException();
        }
    }

    private static void within(int number, int low, int high) {
        if (number < low || high < number) {
            throw new IllegalArgumentException();
        }
    }

    private static void refuse(boolean when) {
        if (when) {
            throw new IllegalStateException();
        }
    }

    private List<Share> at(int owner, int stock) {
        List<Share> found = new ArrayList<>();
        for (Share share : shares) {
            if (share.owner == owner && share.stock == stock && share.out == null) {
                found.add(share);
            }
        }
        return found;
    }

    private List<Share> by(Loan loan) {
        List<Share> found = new ArrayList<>();
        for (Share share : shares) {
            if (share.out == loan) {
                found.add(share);
            }
        }
        return found;
    }

    private int lentBy(int owner, int stock) {
        int sum = 0;
        for (Share share : shares) {
            if (share.owner == owner && share.stock == stock && share.out != null) {
                sum++;
            }
        }
        return sum;
    }

    private int shortOf(int client, int stock) {
        int sum = 0;
        for (Share share : shares) {
            if (share.out != null && share.out.to == client && share.stock == stock) {
                sum++;
            }
        }
        return sum;
    }

    private int longOf(int client, int stock) {
        return at(client, stock).size() + lentBy(client, stock);
    }

    int has(int client, int stock) {
        return longOf(client, stock) - shortOf(client, stock);
    }

    /** Where a borrower gets shares from, in the document's order, by loans that can be made. */
    private List<Integer> sources(int stock, int borrower, int without) {
        List<Integer> parts = new ArrayList<>();
        List<Integer> pools = new ArrayList<>();
        for (int client = 0; client < 6; client++) {
            if (may[client] && client != borrower) {
                parts.add(client);
            }
        }
        for (int lender = 0; lender < 4; lender++) {
            pools.add(10 + lender);
        }
        pools.sort(Comparator.comparingInt((Integer source) -> fee[source - 10][stock]).thenComparingInt(source -> source));
        parts.addAll(pools);
        parts.removeIf(source -> source == without || at(source, stock).isEmpty());
        int more = 1000 - loans.size();
        return parts.size() > more ? parts.subList(0, more) : parts;
    }

    private int canBorrow(int stock, int borrower) {
        int sum = 0;
        for (int source : sources(stock, borrower, -1)) {
            sum += at(source, stock).size();
        }
        return sum;
    }

    private int borrow(int stock, int borrower, int without, int wanted) {
        int done = 0;
        for (int source : sources(stock, borrower, without)) {
            if (done == wanted) {
                break;
            }
            Loan loan = new Loan(loans.size(), stock, source, borrower, source < 10 ? 0 : fee[source - 10][stock]);
            loans.add(loan);
            for (Share share : at(source, stock)) {
                if (done < wanted) {
                    share.out = loan;
                    done++;
                }
            }
        }
        return done;
    }

    private void callBack(int owner, int stock, int wanted) {
        int left = wanted;
        List<Loan> made = new ArrayList<>(loans);
        for (int i = made.size() - 1; i >= 0; i--) {
            Loan loan = made.get(i);
            if (loan.from != owner || loan.stock != stock) {
                continue;
            }
            int called = 0;
            for (Share share : by(loan)) {
                if (left > 0) {
                    shares.remove(share);
                    left--;
                    called++;
                }
            }
            int got = borrow(stock, loan.to, owner, called);
            replaced += got;
            long worth = (long) (called - got) * price[stock] * 105;
            cash[loan.to] -= worth / 100 + (worth % 100 > 0 ? 1 : 0);
            boughtIn += called - got;
        }
    }

    private void buyNow(int client, int stock, int wanted) {
        List<Loan> mine = new ArrayList<>();
        for (Loan loan : loans) {
            if (loan.to == client && loan.stock == stock) {
                mine.add(loan);
            }
        }
        mine.sort(Comparator.comparingInt((Loan loan) -> -loan.fee).thenComparingInt(loan -> -loan.number));
        int left = wanted;
        for (Loan loan : mine) {
            for (Share share : by(loan)) {
                if (left > 0) {
                    share.out = null;
                    left--;
                }
            }
        }
        for (int k = 0; k < left; k++) {
            shares.add(new Share(stock, client));
        }
        cash[client] -= (long) wanted * price[stock];
    }

    private void sellNow(int client, int stock, int wanted) {
        int left = wanted;
        for (Share share : at(client, stock)) {
            if (left > 0) {
                shares.remove(share);
                left--;
            }
        }
        callBack(client, stock, left);
        cash[client] += (long) wanted * price[stock];
    }

    private void closeNow(int client, int stock) {
        int has = has(client, stock);
        if (has > 0) {
            sellNow(client, stock, has);
        }
        if (has < 0) {
            buyNow(client, stock, -has);
        }
    }

    private long equity(int client) {
        long sum = cash[client];
        for (int stock = 0; stock < 4; stock++) {
            sum += (long) has(client, stock) * price[stock];
        }
        return sum;
    }

    private long need(int client) {
        long[] worth = new long[4];
        long all = 0;
        for (int stock = 0; stock < 4; stock++) {
            worth[stock] = Math.abs((long) has(client, stock) * price[stock]);
            all += worth[stock];
        }
        long need = 0;
        for (int stock = 0; stock < 4; stock++) {
            need += Math.floorDiv(worth[stock] * margin[stock], 100L);
            need += worth[stock] > all - worth[stock] ? Math.floorDiv(worth[stock], 10L) : 0;
        }
        return need;
    }

    private boolean isCalled(int client) {
        return equity(client) < need(client);
    }

    long price(int stock, int cents) {
        there(stock, 4);
        within(cents, 1, 100000);
        int was = price[stock];
        price[stock] = cents;
        return was;
    }

    long margin(int stock, int hundredths) {
        there(stock, 4);
        within(hundredths, 10, 100);
        int was = margin[stock];
        margin[stock] = hundredths;
        return was;
    }

    long cash(int client, int cents) {
        there(client, 6);
        within(cents, -100000000, 100000000);
        refuse(failed[client]);
        long then = equity(client) + cents;
        refuse(then < need(client) && then < equity(client));
        return cash[client] += cents;
    }

    boolean allow(int client, boolean now) {
        there(client, 6);
        refuse(failed[client]);
        boolean was = may[client];
        may[client] = now;
        return was;
    }

    long offer(int lender, int stock, int more, int itsFee) {
        there(lender, 4);
        there(stock, 4);
        within(more, 0, 500);
        within(itsFee, 0, 10000);
        refuse(at(10 + lender, stock).size() + more > 2000);
        for (int k = 0; k < more; k++) {
            shares.add(new Share(stock, 10 + lender));
        }
        fee[lender][stock] = itsFee;
        return at(10 + lender, stock).size();
    }

    long dividend(int stock, int cents) {
        there(stock, 4);
        within(cents, 1, 10000);
        for (int client = 0; client < 6; client++) {
            cash[client] += (long) longOf(client, stock) * cents;
            cash[client] -= (long) shortOf(client, stock) * cents;
        }
        long all = 0;
        for (int lender = 0; lender < 4; lender++) {
            got[lender] += (long) lentBy(10 + lender, stock) * cents;
            all += (long) lentBy(10 + lender, stock) * cents;
        }
        return all;
    }

    long pass(int days) {
        within(days, 1, 50);
        refuse(day + days > 500);
        for (int k = 0; k < days; k++) {
            for (Loan loan : loans) {
                if (loan.from >= 10 && loan.fee > 0) {
                    long cost = (long) by(loan).size() * price[loan.stock] * loan.fee / 3600000L;
                    cash[loan.to] -= cost;
                    got[loan.from - 10] += cost;
                }
            }
            day++;
            for (Recall recall : recalls) {
                if (recall.due == day) {
                    int wanted = Math.min(recall.shares, lentBy(10 + recall.lender, recall.stock));
                    callBack(10 + recall.lender, recall.stock, wanted);
                    met++;
                }
            }
        }
        return day;
    }

    long buy(int client, int stock, int wanted) {
        there(client, 6);
        there(stock, 4);
        within(wanted, 1, 500);
        refuse(failed[client] || has(client, stock) + wanted > 500);
        buyNow(client, stock, wanted);
        return cash[client];
    }

    long sell(int client, int stock, int wanted) {
        there(client, 6);
        there(stock, 4);
        within(wanted, 1, 500);
        refuse(failed[client] || longOf(client, stock) < wanted);
        sellNow(client, stock, wanted);
        return cash[client];
    }

    long locate(int client, int stock, int wanted) {
        there(client, 6);
        there(stock, 4);
        within(wanted, 1, 500);
        refuse(failed[client] || canBorrow(stock, client) < wanted || locates.size() == 60);
        locates.add(new Locate(client, stock, wanted, day));
        return locates.size() - 1;
    }

    long sellShort(int number, int wanted) {
        there(number, locates.size());
        Locate locate = locates.get(number);
        within(wanted, 1, locate.shares);
        int client = locate.client;
        refuse(locate.used || day > locate.given + 1 || failed[client]);
        refuse(longOf(client, locate.stock) > 0 || shortOf(client, locate.stock) + wanted > 500);
        refuse(canBorrow(locate.stock, client) < wanted);
        borrow(locate.stock, client, -1, wanted);
        locate.used = true;
        return cash[client] += (long) wanted * price[locate.stock];
    }

    long recall(int lender, int stock, int wanted, int notice) {
        there(lender, 4);
        there(stock, 4);
        within(wanted, 1, 500);
        within(notice, 1, 10);
        refuse(recalls.size() == 40);
        recalls.add(new Recall(lender, stock, wanted, day + notice));
        return recalls.size() - 1;
    }

    long liquidate(int client) {
        there(client, 6);
        refuse(!isCalled(client));
        int closed = 0;
        while (isCalled(client)) {
            int best = -1;
            for (int stock = 3; stock >= 0; stock--) {
                long worth = Math.abs((long) has(client, stock) * price[stock]);
                if (worth > 0 && (best < 0 || worth >= Math.abs((long) has(client, best) * price[best]))) {
                    best = stock;
                }
            }
            if (best < 0) {
                break;
            }
            closeNow(client, best);
            closed++;
        }
        return closed;
    }

    long fail(int client) {
        there(client, 6);
        refuse(failed[client]);
        for (int stock = 0; stock < 4; stock++) {
            closeNow(client, stock);
        }
        failed[client] = true;
        if (cash[client] >= 0) {
            return 0;
        }
        long loss = -cash[client];
        cash[client] = 0;
        lost += loss;
        return loss;
    }

    long day() {
        return day;
    }

    long position(int client, int stock) {
        there(client, 6);
        there(stock, 4);
        return has(client, stock);
    }

    long part(int client, int stock) {
        there(client, 6);
        there(stock, 4);
        return at(client, stock).size();
    }

    long partAnew(int client, int stock) {
        return part(client, stock);
    }

    long clientOf(int client, int what) {
        there(client, 6);
        within(what, 0, 4);
        long[] all = {cash[client], equity(client), need(client), isCalled(client) ? 1 : 0, failed[client] ? 1 : 0};
        return all[what];
    }

    long lenderOf(int lender, int stock, int what) {
        there(lender, 4);
        there(stock, 4);
        within(what, 0, 3);
        long[] all = {at(10 + lender, stock).size(), lentBy(10 + lender, stock), fee[lender][stock], got[lender]};
        return all[what];
    }

    long stockOf(int stock, int what) {
        there(stock, 4);
        within(what, 0, 6);
        long[] all = {price[stock], 0, 0, 0, 0, 0, margin[stock]};
        for (Share share : shares) {
            if (share.stock == stock) {
                all[1] += share.owner < 10 ? 1 : 0;
                all[2] += share.out != null ? 1 : 0;
                all[3] += share.owner < 10 && share.out == null ? 1 : 0;
                all[4] += share.owner < 10 && share.out != null ? 1 : 0;
                all[5] += share.owner >= 10 && share.out != null ? 1 : 0;
            }
        }
        return all[what];
    }

    long loanOf(int number, int what) {
        there(number, loans.size());
        within(what, 0, 4);
        Loan loan = loans.get(number);
        long[] all = {loan.stock, loan.from, loan.to, by(loan).size(), loan.fee};
        return all[what];
    }

    long locateOf(int number, int what) {
        there(number, locates.size());
        within(what, 0, 3);
        Locate locate = locates.get(number);
        boolean good = !locate.used && day <= locate.given + 1;
        long[] all = {locate.client, locate.stock, locate.shares, good ? 1 : 0};
        return all[what];
    }

    long count(int what) {
        within(what, 0, 4);
        long open = 0;
        for (Loan loan : loans) {
            open += by(loan).isEmpty() ? 0 : 1;
        }
        long[] all = {loans.size(), open, boughtIn, lost, met};
        return all[what];
    }
}
