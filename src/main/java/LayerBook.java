/** Loans that are pooled month by month, and papers that are paid out of what they bring, in an order of steps. */
public final class LayerBook {
    public static final int NONE = -1, BAD = -2, STATE = -3, FULL = -4;
    public static final long NO = -4611686018427387904L;

    private static final int NOTHING = -11, OUTSIDE = -12, UNLIKE = -13, NEGATIVE = -14;
    private static final int FAULT_BASE = -100;

    private static final int MOST_LOANS = 12, MOST_PAPERS = 5, MOST_TEXTS = 6, MOST_ORDERS = 6, MOST_SHEETS = 4;
    private static final int MOST_MONTHS = 60, MOST_RUN = 12, MOST_STEPS = 10, MOST_BYTES = 160, MOST_CELLS = 40;
    private static final int MOST_ROWS = 10, MOST_RATE = 200, MOST_SEED = 99999, MOST_LOST = 1000, MOST_CURE = 12;
    private static final int LEAST_LOAN = 1000, MOST_LOAN = 999999, MOST_PAPER = 9999999;

    private static final int LOAN = 0, FIXED = 1, RESET = 2, BULLET = 3, HOLIDAY = 4, GRADED = 5, KINDS = 6;
    // The kind that each kind stands under.
    private static final int[] ABOVE = {NONE, LOAN, FIXED, LOAN, RESET, BULLET};

    private static final int PAYING = 0, LATE = 1, EARLY = 2, FAILED = 3, SOLD = 4, DONE = 5, BOUGHT = 6;
    private static final int FEE = 0, PAY = 1, OWN = 2, PART = 3, KEEP = 4, REST = 5;
    private static final int BYTES = 0, SHORTS = 1, INTS = 2;

    private final Pool pool = new Pool();
    private final Fall fall = new Fall();
    private final Pool otherPool = new Pool();
    private final Fall otherFall = new Fall();
    private final Month otherMonth = new Month();
    private final Month[] months = new Month[MOST_MONTHS + 1];
    private final int[] orderOf = new int[MOST_MONTHS + 2];
    private final Tape tape = new Tape();
    private final Law[] laws = new Law[MOST_TEXTS];
    private final Order[] orders = new Order[MOST_ORDERS];
    private final Sheet[] sheets = new Sheet[MOST_SHEETS];
    private int month;
    private int lawCount = 1;
    private int orderCount = 1;
    private int forced;

    public LayerBook() {
        for (int k = 0; k < months.length; k++) {
            months[k] = new Month();
        }
        for (int i = 0; i < laws.length; i++) {
            laws[i] = new Law();
        }
        for (int i = 0; i < orders.length; i++) {
            orders[i] = new Order();
        }
        for (int i = 0; i < sheets.length; i++) {
            sheets[i] = new Sheet();
        }
        pool.law = laws[0];
    }

    public int loan(int kind, int balance, int rate, int months) {
        if (!within(kind, 0, KINDS - 1) || !within(balance, LEAST_LOAN, MOST_LOAN)
                || !within(rate, 0, MOST_RATE) || !within(months, 1, MOST_MONTHS)) {
            return BAD;
        }
        if (month > 0) {
            return STATE;
        }
        if (pool.count >= MOST_LOANS) {
            return FULL;
        }
        pool.loans[pool.count].open(kind, balance, rate, months);
        pool.count++;
        return pool.count - 1;
    }

    public int loanTold(int loan, int what) {
        if (!within(loan, 0, pool.count - 1)) {
            return BAD;
        }
        Loan one = pool.loans[loan];
        switch (what) {
            case 0: return one.kind;
            case 1: return (int) one.balance;
            case 2: return one.rate;
            case 3: return one.months;
            case 4: return (int) one.owed;
            case 5: return one.state;
            case 6: return (int) one.pay;
            default: return BAD;
        }
    }

    public int paper(int balance, int coupon) {
        if (!within(balance, 1, MOST_PAPER) || !within(coupon, 0, MOST_RATE)) {
            return BAD;
        }
        if (month > 0) {
            return STATE;
        }
        if (fall.count >= MOST_PAPERS) {
            return FULL;
        }
        fall.papers[fall.count].open(balance, coupon);
        fall.count++;
        return fall.count - 1;
    }

    public int paperTold(int paper, int what) {
        if (!within(paper, 0, fall.count - 1)) {
            return BAD;
        }
        Paper one = fall.papers[paper];
        switch (what) {
            case 0: return (int) one.balance;
            case 1: return one.coupon;
            case 2: return (int) one.lacking;
            case 3: return (int) one.interest;
            case 4: return (int) one.principal;
            case 5: return (int) one.written;
            default: return BAD;
        }
    }

    public long life(int paper, int what) {
        if (!within(paper, 0, fall.count - 1) || !within(what, 0, 1)) {
            return NO;
        }
        Paper one = fall.papers[paper];
        if (one.principal <= 0) {
            return what;
        }
        long common = commonDivisor(one.principal, one.weighted);
        if (common <= 0) {
            return NO;
        }
        return (what == 0 ? one.weighted : one.principal) / common;
    }

    public int tell(int what, int v) {
        int was;
        if (what == 0 && within(v, 0, MOST_SEED)) {
            was = pool.seed;
            pool.seed = v;
            return was;
        }
        if (what == 1 && within(v, 0, 100)) {
            was = pool.back;
            pool.back = v;
            return was;
        }
        if (what == 2 && within(v, 0, 1)) {
            was = pool.advances ? 1 : 0;
            pool.advances = v == 1;
            return was;
        }
        return BAD;
    }

    public int trip(int bound, int cure) {
        if (!within(bound, 0, MOST_LOST) || !within(cure, 1, MOST_CURE)) {
            return BAD;
        }
        fall.bound = bound;
        fall.cure = cure;
        return 1;
    }

    public int feed(int n, long bytes) {
        if (!within(n, 1, 8)) {
            return BAD;
        }
        if (tape.size + n > MOST_BYTES) {
            return FULL;
        }
        tape.append(n, bytes);
        return tape.size;
    }

    public int text() {
        if (lawCount >= MOST_TEXTS) {
            return FULL;
        }
        int fault = laws[lawCount].read(tape);
        tape.size = 0;
        if (fault != NONE) {
            return FAULT_BASE - fault;
        }
        lawCount++;
        return lawCount - 1;
    }

    public int force(int text) {
        if (!within(text, 0, lawCount - 1)) {
            return BAD;
        }
        int was = forced;
        forced = text;
        pool.law = laws[text];
        return was;
    }

    public long says(int loan, int part) {
        if (!within(loan, 0, pool.count - 1) || !within(part, 0, Law.PARTS - 1) || month >= MOST_MONTHS) {
            return NO;
        }
        return pool.law.value(part, pool.loans[loan], month + 1);
    }

    public int order() {
        if (orderCount >= MOST_ORDERS) {
            return FULL;
        }
        int fault = orders[orderCount].read(tape);
        tape.size = 0;
        if (fault != NONE) {
            return FAULT_BASE - fault;
        }
        orderCount++;
        return orderCount - 1;
    }

    public int step(int order, int i, int what) {
        if (!within(order, 0, orderCount - 1)) {
            return BAD;
        }
        Order one = orders[order];
        if (!within(i, NONE, one.count - 1) || !within(what, 0, Order.FACTS - 1)) {
            return BAD;
        }
        return i == NONE ? one.count : one.steps[i][what];
    }

    public int amend(int month, int order) {
        if (!within(order, 0, orderCount - 1) || !within(month, 1, this.month + 1)) {
            return BAD;
        }
        for (int k = month; k < orderOf.length; k++) {
            orderOf[k] = order;
        }
        fall.restart();
        for (int k = 1; k <= this.month && k < months.length; k++) {
            fall.pour(k, months[k], orderIn(k));
        }
        return this.month;
    }

    public int run(int n) {
        if (!within(n, 1, MOST_RUN)) {
            return BAD;
        }
        if (month + n > MOST_MONTHS) {
            return FULL;
        }
        for (int i = 0; i < n; i++) {
            month++;
            pool.collect(month, months[month]);
            fall.pour(month, months[month], orderIn(month));
        }
        return month;
    }

    public int month(int k, int what) {
        if (!within(k, 1, month)) {
            return BAD;
        }
        return what == Month.FACTS ? orderOf[k] : months[k].fact(what);
    }

    public int paid(int k, int i) {
        if (!within(k, 1, month)) {
            return BAD;
        }
        return within(i, 0, orderIn(k).count - 1) ? (int) months[k].took[i] : NONE;
    }

    public int buy(int loan) {
        if (!within(loan, 0, pool.count - 1)) {
            return BAD;
        }
        Loan one = pool.loans[loan];
        if (!one.goesOn()) {
            return STATE;
        }
        one.state = BOUGHT;
        return (int) (one.balance + one.owed);
    }

    public int report(int k, int sheet, int sort, int from, int n) {
        if (!within(k, 1, month)) {
            return BAD;
        }
        int refusal = refusalOf(sheet, sort, n);
        if (refusal != 0) {
            return refusal;
        }
        if (n > 0 && (!sheets[sheet].holds(from) || !sheets[sheet].holds((long) from + n - 1))) {
            return OUTSIDE;
        }
        return firstUnlike(sheets[sheet].cells, from, n, k);
    }

    /** The first of n numbers that isn't what its step took in month k. */
    private int firstUnlike(int[] numbers, int from, int n, int k) {
        int count = orderIn(k).count;
        for (int i = 0; i < n && within(from + i, 0, numbers.length - 1); i++) {
            long took = i < count && i < MOST_STEPS ? months[k].took[i] : 0;
            if (numbers[from + i] != took) {
                return i;
            }
        }
        return NONE;
    }

    public long beside(int n, int seed, int what) {
        if (!within(n, 1, MOST_RUN) || !within(seed, 0, MOST_SEED) || !within(what, 0, 2 + fall.count)
                || month + n > MOST_MONTHS) {
            return NO;
        }
        otherPool.copy(pool);
        otherFall.copy(fall);
        otherPool.seed = seed;
        long sum = 0;
        for (int k = month + 1; k <= month + n; k++) {
            otherPool.collect(k, otherMonth);
            otherFall.pour(k, otherMonth, orderIn(k));
            sum += what == 0 ? otherMonth.loss : what == 1 ? otherMonth.principals : otherMonth.interests;
        }
        if (what <= 2) {
            return sum;
        }
        return otherFall.papers[what - 3].got() - fall.papers[what - 3].got();
    }

    public int count(int what) {
        switch (what) {
            case 0: return pool.count;
            case 1: return fall.count;
            case 2: return lawCount;
            case 3: return orderCount;
            case 4: return tape.size;
            case 5: return month;
            case 6: return forced;
            case 7: return (int) pool.balances();
            case 8: return (int) fall.reserve;
            case 9: return (int) pool.advanced;
            case 10: return fall.tripped ? 1 : 0;
            case 11: return (int) fall.rested;
            default: return BAD;
        }
    }

    public int sheet(int sheet, int sort, int n) {
        if (!within(sheet, 0, MOST_SHEETS - 1) || !within(sort, NONE, INTS)) {
            return BAD;
        }
        if (sort == NONE) {
            sheets[sheet].sort = NONE;
            return 1;
        }
        if (n > MOST_CELLS) {
            return BAD;
        }
        if (n < 0) {
            return NEGATIVE;
        }
        sheets[sheet].lay(sort, n);
        return 1;
    }

    public int cell(int sheet, int i, int v) {
        if (!within(sheet, 0, MOST_SHEETS - 1)) {
            return BAD;
        }
        Sheet row = sheets[sheet];
        if (row.sort == NONE) {
            return NOTHING;
        }
        if (!row.holds(i)) {
            return OUTSIDE;
        }
        row.cells[i] = row.sort == BYTES ? (byte) v : row.sort == SHORTS ? (short) v : v;
        return 1;
    }

    public int loans(int sheet, int sort, int from, int n) {
        int refusal = refusalOf(sheet, sort, n);
        if (refusal != 0) {
            return refusal;
        }
        Sheet row = sheets[sheet];
        int came = 0;
        for (int i = 0; i < n; i++) {
            long first = (long) from + 4 * i;
            if (!row.holds(first) || !row.holds(first + 3)) {
                return OUTSIDE;
            }
            int at = (int) first;
            if (loan(row.cells[at], row.cells[at + 1], row.cells[at + 2], row.cells[at + 3]) >= 0) {
                came++;
            }
        }
        return came;
    }

    public int taken(int loan, int k) {
        if (!within(k, 0, KINDS - 1)) {
            return BAD;
        }
        if (!within(loan, 0, pool.count - 1)) {
            return NOTHING;
        }
        Loan one = pool.loans[loan];
        return one.isKind(k) ? (int) one.balance : UNLIKE;
    }

    /** Why a sheet can't be read as n rows of a sort, 0 if it can. */
    private int refusalOf(int sheet, int sort, int n) {
        if (!within(sheet, 0, MOST_SHEETS - 1) || !within(sort, BYTES, INTS) || !within(n, 0, MOST_ROWS)) {
            return BAD;
        }
        // A missing sheet has no sort, so it can't be of another one.
        if (sheets[sheet].sort == NONE) {
            return NOTHING;
        }
        return sheets[sheet].sort == sort ? 0 : UNLIKE;
    }

    private Order orderIn(int k) {
        int number = within(k, 1, MOST_MONTHS) ? orderOf[k] : 0;
        return orders[within(number, 0, orderCount - 1) ? number : 0];
    }

    private static boolean within(int v, int least, int most) {
        return v >= least && v <= most;
    }

    private static long commonDivisor(long a, long b) {
        // Each two turns halve the larger number, so 200 are more than any two longs need.
        for (int i = 0; i < 200 && b != 0; i++) {
            long left = a % b;
            a = b;
            b = left;
        }
        return a;
    }

    private static final class Loan {
        private static final int RESET_MONTH = 13, HOLIDAY_EVERY = 6, SALE_AFTER = 3;
        int kind;
        long balance;
        int rate;
        int months;
        long owed;
        int state;
        long pay;
        int failedIn;

        void open(int kind, int balance, int rate, int months) {
            this.kind = kind;
            this.balance = balance;
            this.rate = rate;
            this.months = months;
        }

        void copy(Loan from) {
            kind = from.kind;
            balance = from.balance;
            rate = from.rate;
            months = from.months;
            owed = from.owed;
            state = from.state;
            pay = from.pay;
            failedIn = from.failedIn;
        }

        boolean isKind(int k) {
            int at = kind;
            for (int i = 0; i < KINDS && at >= 0 && at < KINDS; i++) {
                if (at == k) {
                    return true;
                }
                at = ABOVE[at];
            }
            return false;
        }

        boolean goesOn() {
            return state == PAYING || state == LATE;
        }

        boolean isPooled() {
            return goesOn() || state == FAILED;
        }

        boolean isSoldIn(int k) {
            return state == FAILED && k >= failedIn + SALE_AFTER;
        }

        int left(int k) {
            return months + 1 - k;
        }

        boolean isLast(int k) {
            return k >= months;
        }

        /** Whether month k asks for no principal, and adds the interest to the balance. */
        boolean rests(int k) {
            return kind == HOLIDAY && k % HOLIDAY_EVERY == 0 && !isLast(k);
        }

        long interest() {
            return balance * rate / 10000;
        }

        long principal(int k) {
            if (isLast(k)) {
                return balance;
            }
            if (isKind(FIXED)) {
                return Math.min(balance, Math.max(0, pay - interest()));
            }
            boolean even = kind == LOAN || kind == GRADED && 3 * k > 2 * months;
            int left = left(k);
            return even && left > 0 ? (balance + left - 1) / left : 0;
        }

        void begin(int k) {
            if (k == 1 && isKind(FIXED)) {
                findPay(k);
            }
            // No month of a loan that has ended begins any more, so its rate stays.
            if (k == RESET_MONTH && isKind(RESET) && goesOn()) {
                rate = Math.min(MOST_RATE, 2 * rate);
                findPay(k);
            }
        }

        private void findPay(int k) {
            long least = 0;
            long enough = balance + interest();
            for (int i = 0; i < 64 && least < enough; i++) {
                long middle = (least + enough) / 2;
                if (wouldEnd(middle, left(k))) {
                    enough = middle;
                } else {
                    least = middle + 1;
                }
            }
            pay = enough;
        }

        private boolean wouldEnd(long payment, int left) {
            long rest = balance;
            for (int i = 0; i < left; i++) {
                rest -= Math.min(rest, Math.max(0, payment - rest * rate / 10000));
            }
            return rest == 0;
        }
    }

    /** What came in and what was paid out in one month. */
    private static final class Month {
        static final int FACTS = 11;
        long interests;
        long principals;
        long backs;
        long advanced;
        long paidBack;
        long cash;
        long poolAhead;
        long poolBehind;
        long loss;
        int late;
        long reserve;
        boolean tripped;
        final long[] took = new long[MOST_STEPS];

        void clear() {
            interests = 0;
            principals = 0;
            backs = 0;
            advanced = 0;
            paidBack = 0;
            loss = 0;
        }

        long collected() {
            return interests + principals + backs + advanced - paidBack;
        }

        int fact(int what) {
            switch (what) {
                case 0: return (int) interests;
                case 1: return (int) principals;
                case 2: return (int) backs;
                case 3: return (int) advanced;
                case 4: return (int) paidBack;
                case 5: return (int) cash;
                case 6: return (int) poolBehind;
                case 7: return (int) loss;
                case 8: return late;
                case 9: return (int) reserve;
                case 10: return tripped ? 1 : 0;
                default: return BAD;
            }
        }
    }

    /** The loans, and what they bring in a month. */
    private static final class Pool {
        final Loan[] loans = new Loan[MOST_LOANS];
        int count;
        int seed;
        int back = 50;
        boolean advances;
        long advanced;
        Law law;

        Pool() {
            for (int n = 0; n < loans.length; n++) {
                loans[n] = new Loan();
            }
        }

        void copy(Pool from) {
            for (int n = 0; n < loans.length; n++) {
                loans[n].copy(from.loans[n]);
            }
            count = from.count;
            seed = from.seed;
            back = from.back;
            advances = from.advances;
            advanced = from.advanced;
            law = from.law;
        }

        long balances() {
            long sum = 0;
            for (int n = 0; n < count; n++) {
                sum += loans[n].isPooled() ? loans[n].balance : 0;
            }
            return sum;
        }

        private int late() {
            int sum = 0;
            for (int n = 0; n < count; n++) {
                sum += loans[n].state == LATE ? 1 : 0;
            }
            return sum;
        }

        void collect(int k, Month row) {
            row.clear();
            row.poolAhead = balances();
            for (int n = 0; n < count; n++) {
                Loan loan = loans[n];
                loan.begin(k);
                if (loan.goesOn()) {
                    draw(n, loan, k, row);
                } else if (loan.state == BOUGHT) {
                    payAll(loan, row, 0, BOUGHT);
                } else if (loan.isSoldIn(k)) {
                    sell(loan, row);
                }
            }
            // This month's advance is owed back at once, but out of INTERESTS alone, never out of itself.
            advanced += row.advanced;
            row.paidBack = Math.min(advanced, row.interests);
            advanced -= row.paidBack;
            row.poolBehind = balances();
            row.late = late();
        }

        private void draw(int n, Loan loan, int k, Month row) {
            int fail = chance(0, loan, k);
            int late = fail + chance(1, loan, k);
            int early = late + chance(2, loan, k);
            int lot = lot(n, k);
            if (lot < fail) {
                loan.state = FAILED;
                loan.failedIn = k;
                loan.owed = 0;
            } else if (lot < late && !loan.rests(k)) {
                fallLate(loan, k, row);
            } else if (lot >= late && lot < early) {
                payAll(loan, row, loan.interest(), loan.isLast(k) ? DONE : EARLY);
            } else {
                payMonth(loan, k, row);
            }
        }

        private int chance(int part, Loan loan, int k) {
            return law == null ? 0 : Math.max(0, Math.min(1000, law.value(part, loan, k)));
        }

        private int lot(int n, int k) {
            long seeded = seed + 7919L * n + 104729L * k;
            return (int) (seeded * 48271 % 2147483647 % 1000);
        }

        private void fallLate(Loan loan, int k, Month row) {
            long interest = loan.interest();
            loan.owed += interest;
            loan.state = LATE;
            if (loan.isLast(k)) {
                loan.months++;
            }
            if (advances) {
                row.advanced += interest;
            }
        }

        private static void payMonth(Loan loan, int k, Month row) {
            long interest = loan.interest();
            row.interests += loan.owed;
            loan.owed = 0;
            loan.state = loan.isLast(k) ? DONE : PAYING;
            if (loan.rests(k)) {
                loan.balance += interest;
                return;
            }
            long principal = loan.principal(k);
            row.interests += interest;
            row.principals += principal;
            loan.balance -= principal;
        }

        private static void payAll(Loan loan, Month row, long interest, int state) {
            row.interests += interest + loan.owed;
            row.principals += loan.balance;
            loan.owed = 0;
            loan.balance = 0;
            loan.state = state;
        }

        private void sell(Loan loan, Month row) {
            long came = loan.balance * back / 100;
            row.backs += came;
            row.loss += loan.balance - came;
            loan.balance = 0;
            loan.state = SOLD;
        }
    }

    private static final class Paper {
        int coupon;
        long first;
        long balance;
        long lacking;
        long interest;
        long principal;
        long written;
        long weighted;
        long due;

        void open(int balance, int coupon) {
            this.coupon = coupon;
            first = balance;
            restart();
        }

        void restart() {
            balance = first;
            lacking = 0;
            interest = 0;
            principal = 0;
            written = 0;
            weighted = 0;
            due = 0;
        }

        void copy(Paper from) {
            coupon = from.coupon;
            first = from.first;
            balance = from.balance;
            lacking = from.lacking;
            interest = from.interest;
            principal = from.principal;
            written = from.written;
            weighted = from.weighted;
            due = from.due;
        }

        long got() {
            return interest + principal;
        }

        void begin() {
            due = balance * coupon / 10000 + lacking;
        }

        void end() {
            lacking = due;
        }

        void payInterest(long coins) {
            due -= coins;
            interest += coins;
        }

        void payPrincipal(long coins, int k) {
            balance -= coins;
            principal += coins;
            weighted += coins * k;
        }

        void writeDown(long coins) {
            balance -= coins;
            written += coins;
        }
    }

    /** The papers, and how a month's cash falls through the steps of an order to them. */
    private static final class Fall {
        private static final int MOST_COVER = 9999;
        final Paper[] papers = new Paper[MOST_PAPERS];
        int count;
        int bound = 1000;
        int cure = 1;
        long reserve;
        boolean tripped;
        int quiet;
        long lost;
        long firstPool;
        long rested;

        Fall() {
            for (int p = 0; p < papers.length; p++) {
                papers[p] = new Paper();
            }
        }

        void restart() {
            for (int p = 0; p < papers.length; p++) {
                papers[p].restart();
            }
            reserve = 0;
            tripped = false;
            quiet = 0;
            lost = 0;
            firstPool = 0;
            rested = 0;
        }

        void copy(Fall from) {
            for (int p = 0; p < papers.length; p++) {
                papers[p].copy(from.papers[p]);
            }
            count = from.count;
            bound = from.bound;
            cure = from.cure;
            reserve = from.reserve;
            tripped = from.tripped;
            quiet = from.quiet;
            lost = from.lost;
            firstPool = from.firstPool;
            rested = from.rested;
        }

        void pour(int k, Month row, Order order) {
            if (k == 1) {
                firstPool = row.poolAhead;
            }
            lost += row.loss;
            turnTrip(row.loss);
            row.tripped = tripped;
            for (int p = 0; p < count; p++) {
                papers[p].begin();
            }
            row.cash = row.collected() + reserve;
            reserve = 0;
            takeSteps(k, row, order);
            for (int p = 0; p < count; p++) {
                papers[p].end();
            }
            writeDown(row.poolBehind);
            row.reserve = reserve;
        }

        private void turnTrip(long loss) {
            quiet = loss > 0 ? 0 : quiet + 1;
            if (tripped) {
                tripped = quiet < cure;
            } else {
                tripped = loss > 0 && lostShare() > bound;
            }
        }

        private long lostShare() {
            return firstPool > 0 ? lost * 1000 / firstPool : 0;
        }

        private void takeSteps(int k, Month row, Order order) {
            long cash = row.cash;
            for (int i = 0; i < MOST_STEPS; i++) {
                row.took[i] = 0;
                if (i < order.count && passes(order.steps[i], k, row)) {
                    long took = Math.min(cash, wish(order.steps[i], row, cash));
                    give(order.steps[i], took, k);
                    row.took[i] = took;
                    cash -= took;
                }
            }
        }

        private boolean passes(int[] step, int k, Month row) {
            int test = step[Order.TEST];
            if (test == Order.UNTESTED) {
                return true;
            }
            long value = field(step[Order.FIELD], k, row);
            int number = step[Order.BOUND];
            switch (test) {
                case Order.LESS: return value < number;
                case Order.SAME: return value == number;
                case Order.NOT_LESS: return value >= number;
                default: return value != number;
            }
        }

        private long field(int field, int k, Month row) {
            switch (field) {
                case 0: return k;
                case 1: return row.late;
                case 2: return lostShare();
                case 3: return cover(row.poolBehind);
                default: return tripped ? 1 : 0;
            }
        }

        private long cover(long pooled) {
            long below = count > 0 ? papers[0].balance : 0;
            return below > 0 ? Math.min(MOST_COVER, 100 * pooled / below) : MOST_COVER;
        }

        /** What a step would take if cash had no end; of a paper that isn't there, nothing. */
        private long wish(int[] step, Month row, long cash) {
            int number = step[Order.NUMBER];
            Paper paper = paperOf(step);
            switch (step[Order.SORT]) {
                case FEE: return row.poolAhead * number / 10000;
                case PAY: return paper == null ? 0 : paper.due;
                case OWN: return paper == null ? 0 : paper.balance;
                case PART: return paper == null ? 0 : Math.min(paper.balance, row.principals * number / 100);
                case KEEP: return Math.max(0, number - reserve);
                default: return cash;
            }
        }

        private void give(int[] step, long coins, int k) {
            Paper paper = paperOf(step);
            switch (step[Order.SORT]) {
                case KEEP:
                    reserve += coins;
                    break;
                case REST:
                    rested += coins;
                    break;
                case PAY:
                    if (paper != null) {
                        paper.payInterest(coins);
                    }
                    break;
                case OWN:
                case PART:
                    if (paper != null) {
                        paper.payPrincipal(coins, k);
                    }
                    break;
                default:
                    break;
            }
        }

        private Paper paperOf(int[] step) {
            int p = step[Order.PAPER];
            return p >= 0 && p < count ? papers[p] : null;
        }

        private void writeDown(long pooled) {
            long over = -pooled - reserve;
            for (int p = 0; p < count; p++) {
                over += papers[p].balance;
            }
            for (int p = count - 1; p >= 0 && over > 0; p--) {
                long coins = Math.min(over, papers[p].balance);
                papers[p].writeDown(coins);
                over -= coins;
            }
        }
    }

    /** The bytes that were fed, and the token of them that is read next. */
    private static final class Tape {
        private static final int END = 0, WORD = 1, NUMBER = 2, SIGN = 3, WRONG = 4, MOST_DIGITS = 4;
        private static final String SIGNS = "();+-*<=";
        final byte[] bytes = new byte[MOST_BYTES];
        int size;
        int start;
        int number;
        private int end;
        private int sort;

        void append(int n, long low) {
            for (int i = 0; i < n && size < MOST_BYTES; i++) {
                bytes[size] = (byte) (low >>> 8 * i);
                size++;
            }
        }

        void begin() {
            end = 0;
            next();
        }

        void next() {
            start = end;
            while (start < size && isBlank(at(start))) {
                start++;
            }
            end = start;
            int first = at(start);
            if (start >= size) {
                sort = END;
            } else if (isLetter(first)) {
                sort = WORD;
                while (end < size && isLetter(at(end))) {
                    end++;
                }
            } else if (isDigit(first)) {
                readNumber();
            } else {
                sort = SIGNS.indexOf((char) first) >= 0 ? SIGN : WRONG;
                end++;
            }
        }

        private void readNumber() {
            number = 0;
            while (end < size && isDigit(at(end))) {
                number = number * 10 + at(end) - '0';
                end++;
            }
            sort = end - start > MOST_DIGITS ? WRONG : NUMBER;
        }

        private int at(int i) {
            return i >= 0 && i < size && i < MOST_BYTES ? bytes[i] & 255 : 0;
        }

        private static boolean isBlank(int b) {
            return b == ' ' || b == '\n';
        }

        private static boolean isLetter(int b) {
            return b >= 'a' && b <= 'z';
        }

        private static boolean isDigit(int b) {
            return b >= '0' && b <= '9';
        }

        boolean isEnd() {
            return sort == END;
        }

        boolean isNumber() {
            return sort == NUMBER;
        }

        boolean isSign(char sign) {
            return sort == SIGN && at(start) == sign;
        }

        boolean takesSign(char sign) {
            boolean fits = isSign(sign);
            if (fits) {
                next();
            }
            return fits;
        }

        boolean takesWord(String word) {
            boolean fits = which(word) == 0;
            if (fits) {
                next();
            }
            return fits;
        }

        /** Which of the words of a list, split by blanks, the token is; NONE if it is none of them. */
        int which(String list) {
            if (sort != WORD) {
                return NONE;
            }
            int word = 0;
            int from = 0;
            for (int i = 0; i <= list.length(); i++) {
                if (i == list.length() || list.charAt(i) == ' ') {
                    if (isSame(list, from, i)) {
                        return word;
                    }
                    word++;
                    from = i + 1;
                }
            }
            return NONE;
        }

        private boolean isSame(String list, int from, int to) {
            if (to - from != end - start) {
                return false;
            }
            for (int i = from; i < to; i++) {
                if (list.charAt(i) != at(start + i - from)) {
                    return false;
                }
            }
            return true;
        }
    }

    /** A text of three parts, kept as numbers, names and signs in the order in which they are reckoned. */
    private static final class Law {
        static final int PARTS = 3;
        private static final String KEYS = "fail late early", NAMES = "month rate left owed balance kind";
        private static final int MOST_OPEN = 5, MOST_STACK = 40;
        private static final int EITHER = 0, BOTH = 1, COMPARED = 2, SUM = 3, TERM = 4, ONE = 5;
        // Numbers of a text are below these, so that one row holds all three sorts.
        private static final int FIRST_NAME = 10000, FIRST_SIGN = 20000;
        private static final int OR = 20000, AND = 20001, NOT = 20002, LESS = 20003, SAME = 20004;
        private static final int PLUS = 20005, MINUS = 20006, TIMES = 20007, NEGATED = 20008;
        private final int[] code = new int[MOST_BYTES];
        private final int[] starts = {0, 1, 2, 3};
        private final int[] stack = new int[MOST_STACK];
        private int length = PARTS;
        private int open;

        /** NONE, or the place of the fault. */
        int read(Tape tape) {
            length = 0;
            open = 0;
            tape.begin();
            for (int part = 0; part < PARTS; part++) {
                starts[part] = length;
                if (tape.which(KEYS) != part) {
                    return tape.start;
                }
                tape.next();
                if (!readChain(tape, EITHER) || !tape.takesSign(';')) {
                    return tape.start;
                }
            }
            starts[PARTS] = length;
            return tape.isEnd() ? NONE : tape.start;
        }

        private boolean readChain(Tape tape, int level) {
            if (level == COMPARED) {
                return readCompared(tape);
            }
            if (level >= ONE) {
                return readOne(tape);
            }
            boolean fits = readChain(tape, level + 1);
            int sign = fits ? signOf(tape, level) : NONE;
            for (int i = 0; i < MOST_BYTES && sign != NONE; i++) {
                tape.next();
                fits = readChain(tape, level + 1) && write(sign);
                sign = fits ? signOf(tape, level) : NONE;
            }
            return fits;
        }

        private static int signOf(Tape tape, int level) {
            switch (level) {
                case EITHER: return tape.which("or") == 0 ? OR : NONE;
                case BOTH: return tape.which("and") == 0 ? AND : NONE;
                case COMPARED: return tape.isSign('<') ? LESS : tape.isSign('=') ? SAME : NONE;
                case SUM: return tape.isSign('+') ? PLUS : tape.isSign('-') ? MINUS : NONE;
                default: return tape.isSign('*') ? TIMES : NONE;
            }
        }

        private boolean readCompared(Tape tape) {
            if (tape.which("not") == 0) {
                return opens(tape) && readCompared(tape) && closes() && write(NOT);
            }
            if (!readChain(tape, SUM)) {
                return false;
            }
            int sign = signOf(tape, COMPARED);
            if (sign == NONE) {
                return true;
            }
            tape.next();
            return readChain(tape, SUM) && write(sign);
        }

        private boolean readOne(Tape tape) {
            if (tape.isSign('-')) {
                return opens(tape) && readOne(tape) && closes() && write(NEGATED);
            }
            if (tape.isSign('(')) {
                return opens(tape) && readChain(tape, EITHER) && tape.takesSign(')') && closes();
            }
            int name = tape.which(NAMES);
            if (name == NONE && !tape.isNumber()) {
                return false;
            }
            boolean fits = write(name == NONE ? tape.number : FIRST_NAME + name);
            tape.next();
            return fits;
        }

        private boolean opens(Tape tape) {
            if (open >= MOST_OPEN) {
                return false;
            }
            open++;
            tape.next();
            return true;
        }

        private boolean closes() {
            open--;
            return true;
        }

        private boolean write(int item) {
            if (length >= code.length) {
                return false;
            }
            code[length] = item;
            length++;
            return true;
        }

        int value(int part, Loan loan, int k) {
            int top = 0;
            for (int i = starts[part]; i < starts[part + 1] && i < code.length; i++) {
                int item = code[i];
                if (item == NOT || item == NEGATED) {
                    if (top < 1) {
                        return 0;
                    }
                    stack[top - 1] = item == NEGATED ? -stack[top - 1] : truth(stack[top - 1] == 0);
                } else if (item >= FIRST_SIGN) {
                    if (top < 2) {
                        return 0;
                    }
                    top--;
                    stack[top - 1] = joined(item, stack[top - 1], stack[top]);
                } else {
                    if (top >= stack.length) {
                        return 0;
                    }
                    stack[top] = item < FIRST_NAME ? item : named(item - FIRST_NAME, loan, k);
                    top++;
                }
            }
            return top > 0 ? stack[0] : 0;
        }

        private static int joined(int sign, int a, int b) {
            switch (sign) {
                case OR: return truth(a != 0 || b != 0);
                case AND: return truth(a != 0 && b != 0);
                case LESS: return truth(a < b);
                case SAME: return truth(a == b);
                case PLUS: return a + b;
                case MINUS: return a - b;
                default: return a * b;
            }
        }

        private static int truth(boolean so) {
            return so ? 1 : 0;
        }

        private static int named(int name, Loan loan, int k) {
            switch (name) {
                case 0: return k;
                case 1: return loan.rate;
                case 2: return loan.left(k);
                case 3: return (int) loan.owed;
                case 4: return (int) loan.balance;
                default: return loan.kind;
            }
        }
    }

    /** The steps by which a month's cash is paid out. */
    private static final class Order {
        static final int SORT = 0, PAPER = 1, NUMBER = 2, TEST = 3, FIELD = 4, BOUND = 5, FACTS = 6;
        static final int UNTESTED = 0, LESS = 1, SAME = 2, NOT_LESS = 3, NEGATION = 2;
        private static final String SORTS = "fee pay own part keep", PAPERS = "a b c d e";
        private static final String FIELDS = "month late lost cover trip";
        final int[][] steps = new int[MOST_STEPS][FACTS];
        int count;

        Order() {
            writeRest(0);
        }

        /** NONE, or the place of the fault. */
        int read(Tape tape) {
            tape.begin();
            for (int i = 0; i < MOST_STEPS; i++) {
                if (tape.takesWord("rest")) {
                    writeRest(i);
                    return tape.isEnd() ? NONE : tape.start;
                }
                boolean mayBegin = i < MOST_STEPS - 1;
                if (!mayBegin || !readStep(tape, steps[i]) || !tape.takesSign(';')) {
                    return tape.start;
                }
            }
            return tape.start;
        }

        private void writeRest(int i) {
            if (i >= 0 && i < MOST_STEPS) {
                clear(steps[i]);
                steps[i][SORT] = REST;
                count = i + 1;
            }
        }

        private static void clear(int[] step) {
            step[PAPER] = NONE;
            step[NUMBER] = NONE;
            step[TEST] = UNTESTED;
            step[FIELD] = NONE;
            step[BOUND] = NONE;
        }

        private static boolean readStep(Tape tape, int[] step) {
            clear(step);
            int sort = tape.which(SORTS);
            if (sort == NONE) {
                return false;
            }
            step[SORT] = sort;
            tape.next();
            boolean ofPaper = sort == PAY || sort == OWN || sort == PART;
            boolean ofNumber = sort == FEE || sort == PART || sort == KEEP;
            if (ofPaper && !readWord(tape, PAPERS, step, PAPER)) {
                return false;
            }
            if (ofNumber && !readNumber(tape, step, NUMBER)) {
                return false;
            }
            return !tape.takesWord("if") || readTest(tape, step);
        }

        private static boolean readTest(Tape tape, int[] step) {
            int negation = tape.takesWord("not") ? NEGATION : 0;
            if (!readWord(tape, FIELDS, step, FIELD)) {
                return false;
            }
            int test = tape.takesSign('<') ? LESS : tape.takesSign('=') ? SAME : NONE;
            if (test == NONE) {
                return false;
            }
            step[TEST] = test + negation;
            return readNumber(tape, step, BOUND);
        }

        private static boolean readWord(Tape tape, String list, int[] step, int fact) {
            int word = tape.which(list);
            if (word == NONE) {
                return false;
            }
            step[fact] = word;
            tape.next();
            return true;
        }

        private static boolean readNumber(Tape tape, int[] step, int fact) {
            if (!tape.isNumber()) {
                return false;
            }
            step[fact] = tape.number;
            tape.next();
            return true;
        }
    }

    /** A row of numbers, or nothing (of sort NONE). */
    private static final class Sheet {
        final int[] cells = new int[MOST_CELLS];
        int sort = NONE;
        private int size;

        void lay(int sort, int size) {
            this.sort = sort;
            this.size = size;
            for (int i = 0; i < cells.length; i++) {
                cells[i] = 0;
            }
        }

        boolean holds(long i) {
            return i >= 0 && i < size && i < cells.length;
        }
    }
}
