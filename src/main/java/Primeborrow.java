/** A prime broker, from whom shares are borrowed to be sold. */
public final class Primeborrow {
    /** There is none. */
    public static final int NONE = -1;

    private static final int STOCKS = 4;
    private static final int CLIENTS = 6;
    private static final int LENDERS = 4;
    /** From whom a loan is: a client's number, or this and a lender's number, together. */
    private static final int LENDER = 10;
    private static final int SOURCES = CLIENTS + LENDERS;

    private static final int MOST_LOANS = 1000;
    private static final int MOST_LOCATES = 60;
    private static final int MOST_RECALLS = 40;
    private static final int LAST_DAY = 500;
    private static final int MOST_HELD = 500;
    private static final int MOST_POOLED = 2000;

    /** A share that no client is long, one that is in the box, and one that client 0 has borrowed. */
    private static final int OUT = 0;
    private static final int BOX = 1;
    private static final int BORROWED = 2;

    private final int[] prices = new int[STOCKS];
    private final int[] margins = new int[STOCKS];
    private final long[] money = new long[CLIENTS];
    private final boolean[] lends = new boolean[CLIENTS];
    private final boolean[] failed = new boolean[CLIENTS];
    private final int[][] held = new int[CLIENTS][STOCKS];
    private final int[][] pools = new int[LENDERS][STOCKS];
    private final int[][] fees = new int[LENDERS][STOCKS];
    private final long[] got = new long[LENDERS];
    /** What is lent still, by whom it is from, as a loan tells it. */
    private final int[][] lent = new int[LENDER + LENDERS][STOCKS];
    private final Loans loans = new Loans();
    private final Locates locates = new Locates();
    private final Recalls recalls = new Recalls();
    private final Hands hands = new Hands();
    private int today;
    private long boughtIn;
    private long lost;

    /** All loans, those that are over with them, in rows by their numbers. */
    private static final class Loans {
        final int[] stock = new int[MOST_LOANS];
        final int[] from = new int[MOST_LOANS];
        final int[] to = new int[MOST_LOANS];
        final int[] shares = new int[MOST_LOANS];
        final int[] fee = new int[MOST_LOANS];
        int made;

        void add(int ofStock, int source, int borrower, int some, int itsFee) {
            if (made >= MOST_LOANS) {
                return;
            }
            stock[made] = ofStock;
            from[made] = source;
            to[made] = borrower;
            shares[made] = some;
            fee[made] = itsFee;
            made++;
        }

        int open() {
            int open = 0;
            for (int i = 0; i < made; i++) {
                if (shares[i] > 0) {
                    open++;
                }
            }
            return open;
        }

        /** The loan that its client gives back first: the dearest, of like ones the latest. */
        int firstBack(int borrower, int ofStock) {
            int best = NONE;
            for (int i = 0; i < made; i++) {
                if (shares[i] > 0 && to[i] == borrower && stock[i] == ofStock
                        && (best == NONE || fee[i] >= fee[best])) {
                    best = i;
                }
            }
            return best;
        }
    }

    /** All locates, in rows by their numbers. */
    private static final class Locates {
        final int[] client = new int[MOST_LOCATES];
        final int[] stock = new int[MOST_LOCATES];
        final int[] shares = new int[MOST_LOCATES];
        final int[] lastDay = new int[MOST_LOCATES];
        final boolean[] used = new boolean[MOST_LOCATES];
        int made;

        void add(int ofClient, int ofStock, int some, int last) {
            if (made >= MOST_LOCATES) {
                return;
            }
            client[made] = ofClient;
            stock[made] = ofStock;
            shares[made] = some;
            lastDay[made] = last;
            made++;
        }
    }

    /** All recalls, in rows by their numbers. */
    private static final class Recalls {
        final int[] lender = new int[MOST_RECALLS];
        final int[] stock = new int[MOST_RECALLS];
        final int[] shares = new int[MOST_RECALLS];
        final int[] dueDay = new int[MOST_RECALLS];
        final boolean[] met = new boolean[MOST_RECALLS];
        int made;

        void add(int ofLender, int ofStock, int some, int due) {
            if (made >= MOST_RECALLS) {
                return;
            }
            lender[made] = ofLender;
            stock[made] = ofStock;
            shares[made] = some;
            dueDay[made] = due;
            made++;
        }

        int metSoFar() {
            int sum = 0;
            for (int i = 0; i < made; i++) {
                if (met[i]) {
                    sum++;
                }
            }
            return sum;
        }
    }

    /**
     * The boxes kept a second time, from the first day on, and share by share: whose name is on
     * each, and in whose hand it is. Nothing of positions or loans is read here, so that the box
     * which is found by them can be held against this one.
     */
    private static final class Hands {
        final int[][] name = new int[STOCKS][CLIENTS * MOST_HELD];
        final int[][] hand = new int[STOCKS][CLIENTS * MOST_HELD];

        /** Hands over so many shares with an owner's name; one that comes from outside gets it. */
        void handOver(int stock, int owner, int giver, int taker, int some) {
            int left = some;
            for (int k = 0; k < CLIENTS * MOST_HELD && left > 0; k++) {
                if (hand[stock][k] == giver && (giver == OUT || name[stock][k] == owner)) {
                    name[stock][k] = owner;
                    hand[stock][k] = taker;
                    left--;
                }
            }
        }

        int inBox(int stock, int owner) {
            int sum = 0;
            for (int k = 0; k < CLIENTS * MOST_HELD; k++) {
                if (hand[stock][k] == BOX && name[stock][k] == owner) {
                    sum++;
                }
            }
            return sum;
        }
    }

    public Primeborrow() {
        for (int s = 0; s < STOCKS; s++) {
            prices[s] = 100;
            margins[s] = 50;
        }
    }

    // ---- what is told

    public int price(int stock, int cents) throws IndexOutOfBoundsException, IllegalArgumentException {
        needStock(stock);
        needRange(cents, 1, 100000);
        int was = prices[stock];
        prices[stock] = cents;
        return was;
    }

    public int margin(int stock, int hundredths) throws IndexOutOfBoundsException, IllegalArgumentException {
        needStock(stock);
        needRange(hundredths, 10, 100);
        int was = margins[stock];
        margins[stock] = hundredths;
        return was;
    }

    public long cash(int client, int cents)
            throws IndexOutOfBoundsException, IllegalArgumentException, IllegalStateException {
        needClient(client);
        needRange(cents, -100000000, 100000000);
        needState(!failed[client]);
        needState(cents >= 0 || equity(client) + cents >= need(client));
        money[client] += cents;
        return money[client];
    }

    public boolean allow(int client, boolean may) throws IndexOutOfBoundsException, IllegalStateException {
        needClient(client);
        needState(!failed[client]);
        boolean might = lends[client];
        lends[client] = may;
        return might;
    }

    public int offer(int lender, int stock, int shares, int fee)
            throws IndexOutOfBoundsException, IllegalArgumentException, IllegalStateException {
        needLender(lender);
        needStock(stock);
        needRange(shares, 0, 500);
        needRange(fee, 0, 10000);
        needState(pools[lender][stock] + shares <= MOST_POOLED);
        pools[lender][stock] += shares;
        fees[lender][stock] = fee;
        return pools[lender][stock];
    }

    public long dividend(int stock, int cents) throws IndexOutOfBoundsException, IllegalArgumentException {
        needStock(stock);
        needRange(cents, 1, 10000);
        for (int c = 0; c < CLIENTS; c++) {
            money[c] += (long) held[c][stock] * cents;
        }
        long all = 0;
        for (int l = 0; l < LENDERS; l++) {
            long paid = (long) lent[LENDER + l][stock] * cents;
            got[l] += paid;
            all += paid;
        }
        return all;
    }

    public int pass(int days) throws IllegalArgumentException, IllegalStateException {
        needRange(days, 1, 50);
        needState(today + days <= LAST_DAY);
        for (int k = 0; k < days; k++) {
            chargeFees();
            today++;
            meetRecalls();
        }
        return today;
    }

    // ---- trades, loans

    public long buy(int client, int stock, int shares)
            throws IndexOutOfBoundsException, IllegalArgumentException, IllegalStateException {
        needClient(client);
        needStock(stock);
        needRange(shares, 1, 500);
        needState(!failed[client] && held[client][stock] + shares <= MOST_HELD);
        buyShares(client, stock, shares);
        return money[client];
    }

    public long sell(int client, int stock, int shares)
            throws IndexOutOfBoundsException, IllegalArgumentException, IllegalStateException {
        needClient(client);
        needStock(stock);
        needRange(shares, 1, 500);
        needState(!failed[client] && held[client][stock] >= shares);
        sellShares(client, stock, shares);
        return money[client];
    }

    public int locate(int client, int stock, int shares)
            throws IndexOutOfBoundsException, IllegalArgumentException, IllegalStateException {
        needClient(client);
        needStock(stock);
        needRange(shares, 1, 500);
        needState(!failed[client] && locates.made < MOST_LOCATES);
        needState(borrowable(stock, client) >= shares);
        locates.add(client, stock, shares, today + 1);
        return locates.made - 1;
    }

    public long sellShort(int locate, int shares)
            throws IndexOutOfBoundsException, IllegalArgumentException, IllegalStateException {
        needLocate(locate);
        needRange(shares, 1, locates.shares[locate]);
        int client = locates.client[locate];
        int stock = locates.stock[locate];
        needState(holds(locate) && !failed[client]);
        needState(held[client][stock] <= 0 && held[client][stock] - shares >= -MOST_HELD);
        needState(borrowable(stock, client) >= shares);
        borrow(stock, client, NONE, shares);
        locates.used[locate] = true;
        held[client][stock] -= shares;
        money[client] += (long) shares * prices[stock];
        return money[client];
    }

    public int recall(int lender, int stock, int shares, int notice)
            throws IndexOutOfBoundsException, IllegalArgumentException, IllegalStateException {
        needLender(lender);
        needStock(stock);
        needRange(shares, 1, 500);
        needRange(notice, 1, 10);
        needState(recalls.made < MOST_RECALLS);
        recalls.add(lender, stock, shares, today + notice);
        return recalls.made - 1;
    }

    public int liquidate(int client) throws IndexOutOfBoundsException, IllegalStateException {
        needClient(client);
        needState(called(client));
        int closed = 0;
        for (int k = 0; k < STOCKS && called(client); k++) {
            int stock = greatest(client);
            if (stock == NONE) {
                break;
            }
            close(client, stock);
            closed++;
        }
        return closed;
    }

    public long fail(int client) throws IndexOutOfBoundsException, IllegalStateException {
        needClient(client);
        needState(!failed[client]);
        for (int s = 0; s < STOCKS; s++) {
            close(client, s);
        }
        failed[client] = true;
        long loss = Math.max(0L, -money[client]);
        money[client] += loss;
        lost += loss;
        return loss;
    }

    // ---- what is asked

    public int day() {
        return today;
    }

    public int position(int client, int stock) throws IndexOutOfBoundsException {
        needClient(client);
        needStock(stock);
        return held[client][stock];
    }

    public int part(int client, int stock) throws IndexOutOfBoundsException {
        needClient(client);
        needStock(stock);
        return inBox(client, stock);
    }

    public int partAnew(int client, int stock) throws IndexOutOfBoundsException {
        needClient(client);
        needStock(stock);
        return hands.inBox(stock, client);
    }

    public long clientOf(int client, int what) throws IndexOutOfBoundsException, IllegalArgumentException {
        needClient(client);
        needRange(what, 0, 4);
        switch (what) {
            case 0: return money[client];
            case 1: return equity(client);
            case 2: return need(client);
            case 3: return called(client) ? 1 : 0;
            default: return failed[client] ? 1 : 0;
        }
    }

    public long lenderOf(int lender, int stock, int what)
            throws IndexOutOfBoundsException, IllegalArgumentException {
        needLender(lender);
        needStock(stock);
        needRange(what, 0, 3);
        switch (what) {
            case 0: return pools[lender][stock];
            case 1: return lent[LENDER + lender][stock];
            case 2: return fees[lender][stock];
            default: return got[lender];
        }
    }

    public int stockOf(int stock, int what) throws IndexOutOfBoundsException, IllegalArgumentException {
        needStock(stock);
        needRange(what, 0, 6);
        switch (what) {
            case 0: return prices[stock];
            case 1: return allLong(stock);
            case 2: return allShort(stock);
            case 3: return allLong(stock) - lentFromBox(stock);
            case 4: return lentFromBox(stock);
            case 5: return lentByLenders(stock);
            default: return margins[stock];
        }
    }

    public int loanOf(int loan, int what) throws IndexOutOfBoundsException, IllegalArgumentException {
        needLoan(loan);
        needRange(what, 0, 4);
        switch (what) {
            case 0: return loans.stock[loan];
            case 1: return loans.from[loan];
            case 2: return loans.to[loan];
            case 3: return loans.shares[loan];
            default: return loans.fee[loan];
        }
    }

    public int locateOf(int locate, int what) throws IndexOutOfBoundsException, IllegalArgumentException {
        needLocate(locate);
        needRange(what, 0, 3);
        switch (what) {
            case 0: return locates.client[locate];
            case 1: return locates.stock[locate];
            case 2: return locates.shares[locate];
            default: return holds(locate) ? 1 : 0;
        }
    }

    public long count(int what) throws IllegalArgumentException {
        needRange(what, 0, 4);
        switch (what) {
            case 0: return loans.made;
            case 1: return loans.open();
            case 2: return boughtIn;
            case 3: return lost;
            default: return recalls.metSoFar();
        }
    }

    // ---- what arguments and states must be

    private static void needStock(int stock) {
        if (stock < 0 || stock >= STOCKS) {
            throw new IndexOutOfBoundsException("no such stock");
        }
    }

    private static void needClient(int client) {
        if (client < 0 || client >= CLIENTS) {
            throw new IndexOutOfBoundsException("no such client");
        }
    }

    private static void needLender(int lender) {
        if (lender < 0 || lender >= LENDERS) {
            throw new IndexOutOfBoundsException("no such lender");
        }
    }

    private void needLoan(int loan) {
        if (loan < 0 || loan >= loans.made) {
            throw new IndexOutOfBoundsException("no such loan");
        }
    }

    private void needLocate(int locate) {
        if (locate < 0 || locate >= locates.made) {
            throw new IndexOutOfBoundsException("no such locate");
        }
    }

    private static void needRange(int number, int least, int most) {
        if (number < least || number > most) {
            throw new IllegalArgumentException("out of range");
        }
    }

    private static void needState(boolean so) {
        if (!so) {
            throw new IllegalStateException("not as things are");
        }
    }

    // ---- margins

    private long worth(int client, int stock) {
        return (long) held[client][stock] * prices[stock];
    }

    private long equity(int client) {
        long sum = money[client];
        for (int s = 0; s < STOCKS; s++) {
            sum += worth(client, s);
        }
        return sum;
    }

    private long need(int client) {
        long all = 0;
        for (int s = 0; s < STOCKS; s++) {
            all += Math.abs(worth(client, s));
        }
        long sum = 0;
        for (int s = 0; s < STOCKS; s++) {
            long size = Math.abs(worth(client, s));
            sum += size * margins[s] / 100;
            if (2 * size > all) {
                sum += size / 10;
            }
        }
        return sum;
    }

    private boolean called(int client) {
        return equity(client) < need(client);
    }

    /** The stock of a client's position of the greatest worth, the lowest of several, or none. */
    private int greatest(int client) {
        int best = NONE;
        long most = 0;
        for (int s = 0; s < STOCKS; s++) {
            long size = Math.abs(worth(client, s));
            if (size > most) {
                most = size;
                best = s;
            }
        }
        return best;
    }

    // ---- sums

    private int inBox(int client, int stock) {
        int has = held[client][stock] > 0 ? held[client][stock] : 0;
        return has - lent[client][stock];
    }

    private int allLong(int stock) {
        int sum = 0;
        for (int c = 0; c < CLIENTS; c++) {
            sum += Math.max(0, held[c][stock]);
        }
        return sum;
    }

    private int allShort(int stock) {
        int sum = 0;
        for (int c = 0; c < CLIENTS; c++) {
            sum += Math.max(0, -held[c][stock]);
        }
        return sum;
    }

    private int lentFromBox(int stock) {
        int sum = 0;
        for (int c = 0; c < CLIENTS; c++) {
            sum += lent[c][stock];
        }
        return sum;
    }

    private int lentByLenders(int stock) {
        int sum = 0;
        for (int l = 0; l < LENDERS; l++) {
            sum += lent[LENDER + l][stock];
        }
        return sum;
    }

    private boolean holds(int locate) {
        return today <= locates.lastDay[locate] && !locates.used[locate];
    }

    // ---- trades

    private void buyShares(int client, int stock, int shares) {
        int back = Math.min(shares, Math.max(0, -held[client][stock]));
        giveBack(client, stock, back);
        held[client][stock] += shares;
        money[client] -= (long) shares * prices[stock];
        hands.handOver(stock, client, OUT, BOX, shares - back);
    }

    private void sellShares(int client, int stock, int shares) {
        int missing = Math.max(0, shares - inBox(client, stock));
        callBack(client, stock, missing);
        held[client][stock] -= shares;
        money[client] += (long) shares * prices[stock];
        hands.handOver(stock, client, BOX, OUT, shares);
    }

    private void close(int client, int stock) {
        int has = held[client][stock];
        if (has > 0) {
            sellShares(client, stock, has);
        } else if (has < 0) {
            buyShares(client, stock, -has);
        }
    }

    // ---- loans

    /** How many shares a client could borrow, by loans that can still be made. */
    private int borrowable(int stock, int borrower) {
        int sum = 0;
        int from = NONE;
        for (int k = 0; k < SOURCES && k < MOST_LOANS - loans.made; k++) {
            from = nextSource(stock, borrower, NONE, from);
            if (from == NONE) {
                break;
            }
            sum += there(from, stock);
        }
        return sum;
    }

    /** Borrows as many of so many shares as there are, but none from one who is left out. */
    private int borrow(int stock, int borrower, int leftOut, int shares) {
        int left = shares;
        int from = NONE;
        for (int k = 0; k < SOURCES && left > 0 && loans.made < MOST_LOANS; k++) {
            from = nextSource(stock, borrower, leftOut, from);
            if (from == NONE) {
                break;
            }
            int some = Math.min(left, there(from, stock));
            lend(stock, from, borrower, some);
            left -= some;
        }
        return shares - left;
    }

    /** Who, of those that have shares to be lent, comes next behind another, or none. */
    private int nextSource(int stock, int borrower, int leftOut, int last) {
        for (int c = Math.max(0, last + 1); c < CLIENTS; c++) {
            if (c != borrower && c != leftOut && lends[c] && inBox(c, stock) > 0) {
                return c;
            }
        }
        int best = NONE;
        for (int l = 0; l < LENDERS; l++) {
            if (LENDER + l != leftOut && pools[l][stock] > 0 && comesBehind(l, last, stock)
                    && (best == NONE || fees[l][stock] < fees[best][stock])) {
                best = l;
            }
        }
        return best == NONE ? NONE : LENDER + best;
    }

    private boolean comesBehind(int lender, int last, int stock) {
        int before = last - LENDER;
        if (before < 0 || before >= LENDERS) {
            return true;
        }
        int more = fees[lender][stock] - fees[before][stock];
        return more > 0 || more == 0 && lender > before;
    }

    private int there(int from, int stock) {
        return from < LENDER ? inBox(from, stock) : pools[from - LENDER][stock];
    }

    private void lend(int stock, int from, int borrower, int shares) {
        lent[from][stock] += shares;
        if (from < LENDER) {
            loans.add(stock, from, borrower, shares, 0);
            hands.handOver(stock, from, BOX, BORROWED + borrower, shares);
        } else {
            loans.add(stock, from, borrower, shares, fees[from - LENDER][stock]);
            pools[from - LENDER][stock] -= shares;
        }
    }

    /** Shares of a loan come back to where they were lent from. */
    private void comeBack(int loan, int shares) {
        int stock = loans.stock[loan];
        int from = loans.from[loan];
        loans.shares[loan] -= shares;
        lent[from][stock] -= shares;
        if (from < LENDER) {
            hands.handOver(stock, from, BORROWED + loans.to[loan], BOX, shares);
        } else {
            pools[from - LENDER][stock] += shares;
        }
    }

    private void giveBack(int client, int stock, int shares) {
        int left = shares;
        for (int k = 0; k < MOST_LOANS && left > 0; k++) {
            int loan = loans.firstBack(client, stock);
            if (loan == NONE) {
                break;
            }
            int some = Math.min(left, loans.shares[loan]);
            comeBack(loan, some);
            left -= some;
        }
    }

    /** Calls shares back from the loans of one who lent them; each is replaced, or bought in. */
    private void callBack(int from, int stock, int shares) {
        int left = shares;
        for (int i = loans.made - 1; i >= 0 && left > 0; i--) {
            if (loans.from[i] == from && loans.stock[i] == stock && loans.shares[i] > 0) {
                int some = Math.min(left, loans.shares[i]);
                comeBack(i, some);
                int replaced = borrow(stock, loans.to[i], from, some);
                buyIn(loans.to[i], stock, some - replaced);
                left -= some;
            }
        }
    }

    private void buyIn(int borrower, int stock, int shares) {
        held[borrower][stock] += shares;
        money[borrower] -= ((long) shares * prices[stock] * 105 + 99) / 100;
        boughtIn += shares;
    }

    // ---- days

    private void chargeFees() {
        for (int i = 0; i < loans.made; i++) {
            if (loans.from[i] >= LENDER) {
                long paid = (long) loans.shares[i] * prices[loans.stock[i]] * loans.fee[i] / 3600000;
                money[loans.to[i]] -= paid;
                got[loans.from[i] - LENDER] += paid;
            }
        }
    }

    private void meetRecalls() {
        for (int i = 0; i < recalls.made; i++) {
            if (!recalls.met[i] && recalls.dueDay[i] <= today) {
                recalls.met[i] = true;
                meet(recalls.lender[i], recalls.stock[i], recalls.shares[i]);
            }
        }
    }

    private void meet(int lender, int stock, int shares) {
        int taken = Math.min(shares, lent[LENDER + lender][stock]);
        callBack(LENDER + lender, stock, taken);
        pools[lender][stock] -= taken;
    }
}
