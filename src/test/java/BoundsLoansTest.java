/** The bounds of Terms 2 and 3 on which promises 3, 16, 17 and 19 lean: what a month makes of a loan. */
public final class BoundsLoansTest {
    private static final int PAYING = 0, LATE = 1, EARLY = 2, FAILED = 3, SOLD = 4, DONE = 5, BOUGHT = 6;

    public static void main(String[] args) {
        interestIsCut();
        loanIsRoundedUp();
        lastMonthIsBalance();
        payIsLeast();
        payIsForMonthOne();
        resetRate();
        resetPay();
        holidayMonths();
        holidayLast();
        gradedMonths();
        lotsAtBounds();
        lotBelowAndFrom();
        partsHeldWithin();
        lateOwes();
        lateInLastMonth();
        lateInMonth60();
        holidayLots();
        failedIsSoldInThree();
        failedAtTheEnd();
        backIsCut();
        backsOfManyAreCutOneByOne();
        earlyOrDone();
        poolAndLate();
        advancesOffAndOn();
        advancesPaidBack();
        Due.end("BoundsLoansTest");
    }

    private static LayerBook loanBook(int kind, int balance, int rate, int months) {
        LayerBook x = new LayerBook();
        Due.is("loan", x.loan(kind, balance, rate, months), 0);
        return x;
    }

    private static LayerBook lawBook(int kind, int balance, int rate, int months, String law) {
        LayerBook x = loanBook(kind, balance, rate, months);
        Due.law(x, law);
        return x;
    }

    private static void interestIsCut() {
        Due.sentence("Terms 2, 'INTEREST i: BALANCE times RATE by 10000', with Terms, 'quotients are cut'");
        int[][] cases = {{1000, 0, 0}, {1000, 9, 0}, {1000, 10, 1}, {1000, 19, 1}, {1000, 200, 20}, {9999, 1, 0}, {10000, 1, 1},
            {19999, 1, 1}, {999999, 1, 99}, {999999, 199, 19899}, {999999, 200, 19999}};
        for (int[] c : cases) {
            LayerBook x = loanBook(3, c[0], c[1], 2);
            x.run(1);
            Due.is("BALANCE " + c[0] + " RATE " + c[1], x.month(1, 0), c[2]);
        }
    }

    private static void loanIsRoundedUp() {
        Due.sentence("Terms 2, 'LOAN: BALANCE by MONTHS LEFT, rounded up'");
        int[][] cases = {{1000, 3, 334}, {1000, 4, 250}, {1001, 4, 251}, {1003, 4, 251}, {1004, 4, 251}, {1005, 4, 252},
            {1000, 60, 17}, {1020, 60, 17}, {1021, 60, 18}, {999999, 60, 16667}, {999999, 2, 500000}, {1000, 1, 1000}};
        for (int[] c : cases) {
            LayerBook x = loanBook(0, c[0], 0, c[1]);
            x.run(1);
            Due.is("BALANCE " + c[0] + " MONTHS " + c[1], x.month(1, 1), c[2]);
            Due.runTo(x, c[1]);
            Due.is("nothing is left", x.loanTold(0, 1), 0);
            Due.is("done in the last of its MONTHS", x.loanTold(0, 5), DONE);
        }
    }

    private static void lastMonthIsBalance() {
        Due.sentence("Terms 2, 'PRINCIPAL p, in the last of its MONTHS the BALANCE'");
        for (int kind = 0; kind < 6; kind++) {
            for (int months : new int[] {1, 2, 6, 12, 59, 60}) {
                LayerBook x = loanBook(kind, 54321, 37, months);
                Due.runTo(x, months - 1);
                int balance = x.loanTold(0, 1);
                Due.is("paying ahead of it", x.loanTold(0, 5), PAYING);
                x.run(1);
                Due.is("kind " + kind + " months " + months, x.month(months, 1), balance);
                Due.is("its interest", x.month(months, 0), balance * x.loanTold(0, 2) / 10000);
                Due.is("nothing is left", x.loanTold(0, 1), 0);
                Due.is("done", x.loanTold(0, 5), DONE);
                Due.is("its MONTHS stay", x.loanTold(0, 3), months);
            }
        }
    }

    /** What is left of a balance behind its months, if so much is paid in each. */
    private static long leftBehind(long balance, int rate, int months, long pay) {
        for (int i = 0; i < months; i++) {
            balance -= Math.min(balance, Math.max(0, pay - balance * rate / 10000));
        }
        return balance;
    }

    private static void payIsLeast() {
        Due.sentence("Terms 2, 'PAY being the least whole number with which .. nothing would be left behind the last month'");
        int[][] cases = {{1000, 0, 1}, {1000, 0, 60}, {1000, 200, 1}, {1000, 200, 60}, {999999, 0, 1}, {999999, 0, 60},
            {999999, 200, 1}, {999999, 200, 60}, {1000, 0, 3}, {10000, 100, 10}, {1001, 99, 7}, {123456, 3, 59}, {1020, 0, 60}};
        for (int[] c : cases) {
            for (int kind : new int[] {1, 2, 4}) {
                LayerBook x = loanBook(kind, c[0], c[1], c[2]);
                x.run(1);
                long pay = x.loanTold(0, 6);
                Due.is("enough", leftBehind(c[0], c[1], c[2], pay), 0);
                Due.holds("the least", leftBehind(c[0], c[1], c[2], pay - 1) > 0);
            }
        }
        LayerBook x = loanBook(1, 10000, 100, 10);
        x.run(1);
        Due.is("PAY", x.loanTold(0, 6), 1056);
        Due.is("PAY less i", x.month(1, 1), 1056 - 100);
        LayerBook y = loanBook(1, 1000, 0, 60);
        Due.runTo(y, 59);
        // 17 a month are 1003 in 59 months.
        Due.is("at most the BALANCE", y.month(59, 1), 1000 - 58 * 17);
        Due.is("nothing is left for the last month", y.loanTold(0, 1), 0);
        Due.is("it pays till the last month", y.loanTold(0, 5), PAYING);
        y.run(1);
        Due.is("done", y.loanTold(0, 5), DONE);
    }

    private static void payIsForMonthOne() {
        Due.sentence("Terms 2, 'it is found as the first month begins' (and PAY stays)");
        LayerBook x = loanBook(1, 10000, 100, 1);
        x.run(1);
        Due.is("of one month", x.loanTold(0, 6), 10100);
        LayerBook y = lawBook(1, 10000, 100, 10, "fail 0;late 1000*(month<4);early 0;");
        y.run(3);
        Due.is("late from the first month on", y.loanTold(0, 6), 1056);
        y.run(1);
        Due.is("PAY less i", y.month(4, 1), 956);
        LayerBook z = lawBook(1, 10000, 100, 10, "fail 1000;late 0;early 0;");
        z.run(1);
        Due.is("failed in the first month", z.loanTold(0, 6), 1056);
    }

    private static void resetRate() {
        Due.sentence("Terms 2, 'RESET: from month 13 on RATE is twice what it was (200 at most)'");
        int[][] cases = {{0, 0}, {1, 2}, {50, 100}, {99, 198}, {100, 200}, {101, 200}, {199, 200}, {200, 200}};
        for (int[] c : cases) {
            for (int kind = 0; kind < 6; kind++) {
                LayerBook x = loanBook(kind, 50000, c[0], 40);
                x.run(12);
                Due.is("behind month 12, kind " + kind, x.loanTold(0, 2), c[0]);
                int balance = x.loanTold(0, 1);
                x.run(1);
                boolean resets = kind == 2 || kind == 4;
                int rate = resets ? c[1] : c[0];
                Due.is("behind month 13, kind " + kind, x.loanTold(0, 2), rate);
                Due.is("INTEREST of month 13", x.month(13, 0), (long) balance * rate / 10000);
                x.run(12);
                Due.is("behind month 25, kind " + kind, x.loanTold(0, 2), rate);
            }
        }
    }

    private static void resetPay() {
        Due.sentence("Terms 2, 'and PAY is found anew as that month begins, for the BALANCE then and MONTHS LEFT'");
        for (int months : new int[] {13, 14, 20, 60}) {
            for (int kind : new int[] {2, 4}) {
                LayerBook x = loanBook(kind, 50000, 30, months);
                x.run(12);
                int balance = x.loanTold(0, 1);
                int ahead = x.loanTold(0, 6);
                Due.is("PAY of month 1 till then", leftBehind(50000, 30, months, ahead), 0);
                x.run(1);
                long pay = x.loanTold(0, 6);
                Due.is("enough, months " + months, leftBehind(balance, 60, months - 12, pay), 0);
                Due.holds("the least, months " + months, leftBehind(balance, 60, months - 12, pay - 1) > 0);
            }
        }
        LayerBook x = loanBook(2, 50000, 30, 12);
        x.run(12);
        int pay = x.loanTold(0, 6);
        x.run(1);
        Due.is("one that was done in month 12: PAY", x.loanTold(0, 6), pay);
        Due.is("one that was done in month 12: RATE", x.loanTold(0, 2), 30);
    }

    private static void holidayMonths() {
        Due.sentence("Terms 2, 'HOLIDAY: .. in each month k that is a multiple of 6, but the last one, p is 0, and i comes to the "
            + "BALANCE (it is not paid, and not collected)'");
        LayerBook x = loanBook(4, 90000, 50, 60);
        for (int k = 1; k <= 60; k++) {
            int balance = x.loanTold(0, 1);
            x.run(1);
            int interest = balance * x.loanTold(0, 2) / 10000;
            if (k % 6 == 0 && k < 60) {
                Due.is("collected in month " + k, x.month(k, 0) + x.month(k, 1), 0);
                Due.is("BALANCE behind month " + k, x.loanTold(0, 1), balance + interest);
            } else {
                Due.is("INTEREST of month " + k, x.month(k, 0), interest);
                int principal = k == 60 ? balance : Math.min(balance, x.loanTold(0, 6) - interest);
                Due.is("PRINCIPAL of month " + k, x.month(k, 1), principal);
            }
        }
        Due.is("done", x.loanTold(0, 5), DONE);
    }

    private static void holidayLast() {
        Due.sentence("Terms 2, 'a multiple of 6, but the last one'");
        int[][] cases = {{6, 6}, {12, 12}, {7, 6}, {13, 12}};
        for (int[] c : cases) {
            LayerBook x = loanBook(4, 6000, 100, c[0]);
            Due.runTo(x, c[1] - 1);
            int balance = x.loanTold(0, 1);
            x.run(1);
            boolean last = c[0] == c[1];
            Due.is("MONTHS " + c[0] + " BALANCE behind " + c[1], x.loanTold(0, 1), last ? 0 : balance + balance / 100);
            Due.is("MONTHS " + c[0] + " PRINCIPAL of " + c[1], x.month(c[1], 1), last ? balance : 0);
        }
    }

    private static void gradedMonths() {
        Due.sentence("Terms 2, 'GRADED: in months k with 3 k above 2 MONTHS as LOAN, else as BULLET'");
        for (int months : new int[] {1, 2, 3, 4, 5, 9, 10, 11, 59, 60}) {
            LayerBook x = loanBook(5, 7001, 0, months);
            int balance = 7001;
            for (int k = 1; k <= months; k++) {
                x.run(1);
                int left = months + 1 - k;
                int principal = k == months ? balance : 3 * k > 2 * months ? (balance + left - 1) / left : 0;
                Due.is("MONTHS " + months + " month " + k, x.month(k, 1), principal);
                balance -= principal;
            }
            Due.is("done", x.loanTold(0, 5), DONE);
        }
    }

    private static int lot(long seed, long n, long k) {
        return (int) ((seed + 7919 * n + 104729 * k) * 48271 % 2147483647 % 1000);
    }

    private static void lotsAtBounds() {
        Due.sentence("Terms 3, 'LOT of LOAN n in month k: ((SEED and 7919 n and 104729 k) times 48271 modulo 2147483647) modulo 1000'");
        Due.is("by hand, SEED 77, LOAN 0, month 1", lot(77, 0, 1), 132);
        for (int seed : new int[] {0, 1, 44488, 99999}) {
            for (int k : new int[] {1, 2, 13, 59, 60}) {
                for (int n : new int[] {0, 1, 11}) {
                    int lot = lot(seed, n, k);
                    String at = "SEED " + seed + " LOAN " + n + " month " + k;
                    Due.is(at + " x is not below x", lotState(seed, n, k, lot), k == 60 ? DONE : PAYING);
                    Due.is(at + " x is below x + 1", lotState(seed, n, k, lot + 1), FAILED);
                }
            }
        }
    }

    private static int lotState(int seed, int n, int k, int fail) {
        LayerBook x = new LayerBook();
        for (int i = 0; i < 12; i++) {
            x.loan(3, 1000, i, 60);
        }
        x.tell(0, seed);
        Due.law(x, "fail (month=" + k + " and rate=" + n + ")*" + fail + ";late 0;early 0;");
        Due.runTo(x, k);
        return x.loanTold(n, 5);
    }

    private static void lotBelowAndFrom() {
        Due.sentence("Terms 3, 'x below f', 'x from f on, below f + l', 'x from f + l on, below f + l + e', 'Else it pays'");
        int x = lot(0, 0, 1);
        Due.holds("the lot is well within", x > 10 && x < 990);
        int[][] cases = {{x + 1, 0, 0, FAILED}, {x, 0, 0, PAYING}, {x, 1, 0, LATE}, {x, 0, 1, EARLY}, {x - 1, 1, 0, PAYING},
            {x - 1, 2, 0, LATE}, {x - 1, 1, 1, EARLY}, {x - 1, 0, 1, PAYING}, {x - 1, 0, 2, EARLY}, {0, x, 1, EARLY},
            {0, x, 0, PAYING},
            {0, x + 1, 1000, LATE}, {0, 0, x, PAYING}, {0, 0, x + 1, EARLY}, {1000, 1000, 1000, FAILED}, {x - 2, 1, 1, PAYING},
            {x - 2, 1, 2, EARLY}, {x, 1000, 1000, LATE}, {x - 5, 5, 1000, EARLY}};
        for (int[] c : cases) {
            LayerBook book = lawBook(3, 1000, 0, 9, "fail " + c[0] + ";late " + c[1] + ";early " + c[2] + ";");
            book.run(1);
            Due.is("f " + c[0] + " l " + c[1] + " e " + c[2], book.loanTold(0, 5), c[3]);
        }
    }

    private static void partsHeldWithin() {
        Due.sentence("Terms 3, 'Each part counts as 0 at least, 1000 at most'");
        Object[][] cases = {{"fail -1;late 1000;early 0;", LATE}, {"fail -999;late 999;early 0;", LATE},
            {"fail -9999;late -9999;early 999;", EARLY}, {"fail 0;late -1000;early 1000;", EARLY},
            {"fail 1000;late 0;early 0;", FAILED},
            {"fail 1001;late 0;early 0;", FAILED}, {"fail 9999;late -9999;early -9999;", FAILED},
            {"fail -1;late -1;early -1;", PAYING},
            {"fail 0;late 1001;early 0;", LATE}, {"fail 0;late 0;early 1001;", EARLY}};
        // With SEED 154 the LOT of LOAN 0 in month 1 is 999, with SEED 785 it is 0.
        Due.is("the largest lot", lot(154, 0, 1), 999);
        Due.is("the least lot", lot(785, 0, 1), 0);
        for (Object[] c : cases) {
            LayerBook x = lawBook(3, 1000, 0, 9, (String) c[0]);
            x.tell(0, 785);
            x.run(1);
            Due.is((String) c[0] + " lot 0", x.loanTold(0, 5), (Integer) c[1]);
        }
        Object[][] most = {{"fail 999;late 0;early 0;", PAYING}, {"fail 1000;late 0;early 0;", FAILED},
            {"fail 9999;late 0;early 0;", FAILED},
            {"fail 0;late 999;early 0;", PAYING}, {"fail 0;late 9999;early 0;", LATE}, {"fail 500;late 499;early 0;", PAYING},
            {"fail 500;late 499;early 1;", EARLY}, {"fail 500;late 500;early 0;", LATE},
            {"fail -500;late 999;early 0;", PAYING},
            {"fail 0;late -500;early 999;", PAYING}};
        for (Object[] c : most) {
            LayerBook x = lawBook(3, 1000, 0, 9, (String) c[0]);
            x.tell(0, 154);
            x.run(1);
            Due.is((String) c[0] + " lot 999", x.loanTold(0, 5), (Integer) c[1]);
        }
    }

    private static void lateOwes() {
        Due.sentence("Terms 3, 'it is late: i comes to OWED', 'One that pays is paying'");
        LayerBook x = lawBook(0, 1999, 10, 5, "fail 0;late 1000*(month<3);early 0;");
        x.run(1);
        Due.is("OWED, cut", x.loanTold(0, 4), 1);
        Due.is("BALANCE stays", x.loanTold(0, 1), 1999);
        Due.is("late", x.loanTold(0, 5), LATE);
        Due.is("nothing is collected", x.month(1, 5), 0);
        x.run(1);
        Due.is("OWED of two months", x.loanTold(0, 4), 2);
        x.run(1);
        Due.is("INTERESTS (with OWED)", x.month(3, 0), 3);
        Due.is("PRINCIPAL by the MONTHS LEFT", x.month(3, 1), 667);
        Due.is("OWED", x.loanTold(0, 4), 0);
        Due.is("paying", x.loanTold(0, 5), PAYING);
        Due.is("MONTHS", x.loanTold(0, 3), 5);
    }

    private static void lateInLastMonth() {
        Due.sentence("Terms 3, 'One that is late in its last month goes on: its MONTHS are one more (PAY stays)'");
        for (int kind = 0; kind < 6; kind++) {
            LayerBook x = lawBook(kind, 6000, 100, 3, "fail 0;late 1000*(2<month and month<6);early 0;");
            x.run(2);
            int balance = x.loanTold(0, 1);
            int pay = x.loanTold(0, 6);
            for (int k = 3; k < 6; k++) {
                x.run(1);
                Due.is("MONTHS behind month " + k + " kind " + kind, x.loanTold(0, 3), k + 1);
                Due.is("late", x.loanTold(0, 5), LATE);
            }
            Due.is("PAY stays", x.loanTold(0, 6), pay);
            Due.is("BALANCE stays", x.loanTold(0, 1), balance);
            x.run(1);
            Due.is("paid in month 6, kind " + kind, x.month(6, 1), balance);
            Due.is("with all interest", x.month(6, 0), 4 * (balance / 100));
            Due.is("done", x.loanTold(0, 5), DONE);
            Due.is("MONTHS", x.loanTold(0, 3), 6);
        }
        LayerBook x = lawBook(0, 6000, 0, 3, "fail 0;late 1000*(month=2);early 0;");
        x.run(2);
        Due.is("late ahead of its last month", x.loanTold(0, 3), 3);
    }

    private static void lateInMonth60() {
        Due.sentence("Terms 3, 'its MONTHS are one more', of one whose last month is 60, with Terms, 'MONTH is .. 60 at most'");
        LayerBook x = lawBook(3, 6000, 100, 60, "fail 0;late 1000*(month=60);early 0;");
        Due.runTo(x, 60);
        Due.is("MONTHS", x.loanTold(0, 3), 61);
        Due.is("OWED", x.loanTold(0, 4), 60);
        Due.is("late", x.loanTold(0, 5), LATE);
        Due.is("in the pool", x.count(7), 6000);
    }

    private static void holidayLots() {
        Due.sentence("Terms 3, '(but in a HOLIDAY's month without PRINCIPAL it goes on as if it paid)'");
        LayerBook x = lawBook(4, 6000, 100, 12, "fail 0;late 1000*(4<month and month<7);early 0;");
        x.tell(2, 1);
        x.run(5);
        int balance = x.loanTold(0, 1);
        int owed = x.loanTold(0, 4);
        Due.is("late in month 5", x.loanTold(0, 5), LATE);
        Due.is("OWED", owed, balance / 100);
        x.run(1);
        Due.is("paying in month 6", x.loanTold(0, 5), PAYING);
        Due.is("just OWED is collected", x.month(6, 0), owed);
        Due.is("no PRINCIPAL", x.month(6, 1), 0);
        Due.is("nothing is advanced", x.month(6, 3), 0);
        Due.is("i comes to the BALANCE", x.loanTold(0, 1), balance + balance / 100);
        Due.is("none is late", x.month(6, 8), 0);
        Due.sentence("Terms 3, 'it is late', of a HOLIDAY's last month that is a multiple of 6");
        LayerBook y = lawBook(4, 6000, 100, 6, "fail 0;late 1000*(month=6);early 0;");
        y.run(6);
        Due.is("late in its last month", y.loanTold(0, 5), LATE);
        Due.is("MONTHS", y.loanTold(0, 3), 7);
        Due.sentence("Terms 3, 'x below f: it has failed', of a HOLIDAY's month without PRINCIPAL");
        LayerBook z = lawBook(4, 6000, 100, 12, "fail 1000*(month=6);late 1000*(month=5);early 0;");
        z.run(5);
        int stands = z.loanTold(0, 1);
        z.run(1);
        Due.is("failed", z.loanTold(0, 5), FAILED);
        Due.is("its BALANCE stands", z.loanTold(0, 1), stands);
        Due.is("nothing is paid", z.month(6, 5), 0);
        Due.sentence("Terms 3, 'it pays i, OWED, the BALANCE: paid early', of a HOLIDAY's month without PRINCIPAL");
        LayerBook w = lawBook(4, 6000, 100, 12, "fail 0;late 1000*(month=5);early 1000*(month=6);");
        w.run(5);
        int rest = w.loanTold(0, 1);
        w.run(1);
        Due.is("paid early", w.loanTold(0, 5), EARLY);
        Due.is("the BALANCE", w.month(6, 1), rest);
        Due.is("i and OWED", w.month(6, 0), rest / 100 * 2);
    }

    private static void failedIsSoldInThree() {
        Due.sentence("Terms 3, 'A LOAN that failed in month k is sold in month k + 3 (it pays nothing else): BACK .. come back, LOSS is "
            + "the rest; till then its BALANCE stands; OWED is gone'");
        LayerBook x = lawBook(0, 6001, 100, 20, "fail 1000*(month=2);late 1000*(month=1);early 0;");
        x.run(1);
        Due.is("OWED", x.loanTold(0, 4), 60);
        for (int k = 2; k < 5; k++) {
            x.run(1);
            Due.is("failed in month " + k, x.loanTold(0, 5), FAILED);
            Due.is("BALANCE stands", x.loanTold(0, 1), 6001);
            Due.is("OWED is gone", x.loanTold(0, 4), 0);
            Due.is("it pays nothing", x.month(k, 5), 0);
            Due.is("no LOSS", x.month(k, 7), 0);
            Due.is("POOL", x.month(k, 6), 6001);
        }
        x.run(1);
        Due.is("sold in month 5", x.loanTold(0, 5), SOLD);
        Due.is("BALANCE", x.loanTold(0, 1), 0);
        Due.is("BACKS", x.month(5, 2), 3000);
        Due.is("LOSS", x.month(5, 7), 3001);
        Due.is("POOL", x.month(5, 6), 0);
        Due.is("CASH", x.month(5, 5), 3000);
        x.run(1);
        Due.is("nothing comes behind", x.month(6, 5), 0);
        Due.is("no LOSS behind", x.month(6, 7), 0);
        Due.is("MONTHS stay", x.loanTold(0, 3), 20);
    }

    private static void failedAtTheEnd() {
        Due.sentence("Terms 3, 'sold in month k + 3', of one that failed in month 57 or 58");
        for (int failed = 57; failed <= 58; failed++) {
            LayerBook x = lawBook(3, 6000, 0, 60, "fail 1000*(month=" + failed + ");late 0;early 0;");
            Due.runTo(x, 60);
            Due.is("failed in month " + failed, x.loanTold(0, 5), failed == 57 ? SOLD : FAILED);
            Due.is("LOSS of month 60", x.month(60, 7), failed == 57 ? 3000 : 0);
        }
    }

    private static void backIsCut() {
        Due.sentence("Terms 3, 'BACK (0 .. 100; 50 at first) hundredths of its BALANCE come back, LOSS is the rest', with Terms, "
            + "'quotients are cut'");
        int[][] cases = {{0, 0}, {1, 10}, {50, 505}, {99, 1000}, {100, 1011}};
        for (int[] c : cases) {
            LayerBook x = lawBook(3, 1011, 0, 60, "fail 1000;late 0;early 0;");
            x.run(3);
            x.tell(1, c[0]);
            x.run(1);
            Due.is("BACK " + c[0], x.month(4, 2), c[1]);
            Due.is("LOSS with BACK " + c[0], x.month(4, 7), 1011 - c[1]);
        }
    }

    private static void backsOfManyAreCutOneByOne() {
        Due.sentence("Terms 3, 'BACK .. hundredths of its BALANCE come back, LOSS is the rest', of loans that are sold in one month");
        LayerBook x = new LayerBook();
        for (int n = 0; n < 3; n++) {
            x.loan(3, 1001 + 100 * n, n, 60);
        }
        Due.law(x, "fail 1000*(rate<2);late 0;early 0;");
        x.run(4);
        Due.is("BACKS of 1001 and 1101", x.month(4, 2), 500 + 550);
        Due.is("LOSS of 1001 and 1101", x.month(4, 7), 501 + 551);
        Due.is("POOL", x.month(4, 6), 1201);
        Due.sentence("Terms 3, 'COLLECTED in a month: INTERESTS .., PRINCIPALS ..', of loans each of which is cut");
        LayerBook y = new LayerBook();
        for (int n = 0; n < 12; n++) {
            y.loan(0, 1999, 10, 3);
        }
        y.run(1);
        Due.is("INTERESTS", y.month(1, 0), 12);
        Due.is("PRINCIPALS", y.month(1, 1), 12 * 667);
        Due.is("POOL", y.month(1, 6), 12 * 1332);
    }

    private static void earlyOrDone() {
        Due.sentence("Terms 3, 'paid early (done, if it is its last month)'");
        for (int kind = 0; kind < 6; kind++) {
            for (int k = 1; k <= 3; k++) {
                LayerBook x = lawBook(kind, 6000, 100, 3, "fail 0;late 0;early 1000*(month=" + k + ");");
                Due.runTo(x, k - 1);
                int balance = x.loanTold(0, 1);
                x.run(1);
                Due.is("kind " + kind + " in month " + k, x.loanTold(0, 5), k == 3 ? DONE : EARLY);
                Due.is("the BALANCE", x.month(k, 1), balance);
                Due.is("i", x.month(k, 0), balance / 100);
                Due.is("BALANCE behind", x.loanTold(0, 1), 0);
                x.run(1);
                Due.is("nothing comes behind", x.month(k + 1, 5), 0);
                Due.is("the state stays", x.loanTold(0, 5), k == 3 ? DONE : EARLY);
            }
        }
    }

    private static void poolAndLate() {
        Due.sentence("Terms 3, 'POOL: BALANCES of all that are paying, late or failed. LATE: how many are late', with Promise 22, '7 "
            + "POOL'");
        LayerBook x = new LayerBook();
        for (int n = 0; n < 7; n++) {
            x.loan(3, 1000 << n, n, n == 4 ? 2 : 60);
        }
        Due.is("at first", x.count(7), 127000);
        // 0 pays, 1 is late, 2 fails in month 5, 3 is paid early, 4 is done, 5 fails in month 1, 6 is bought back.
        Due.law(x, "fail 1000*(rate=2 and month=5 or rate=5);late 1000*(rate=1);early 1000*(rate=3);");
        x.run(5);
        x.buy(6);
        int[] states = {PAYING, LATE, FAILED, EARLY, DONE, SOLD, BOUGHT};
        for (int n = 0; n < 7; n++) {
            Due.is("STATE of " + n, x.loanTold(n, 5), states[n]);
        }
        Due.is("POOL", x.count(7), 1000 + 2000 + 4000);
        Due.is("POOL behind month 5", x.month(5, 6), 1000 + 2000 + 4000 + 64000);
        Due.is("LATE", x.month(5, 8), 1);
        Due.is("BALANCE of the one bought back", x.loanTold(6, 1), 64000);
    }

    private static void advancesOffAndOn() {
        Due.sentence("Terms 3, 'ADVANCES (on or off; off at first): while on, of each LOAN that is late in a month i is advanced (it is "
            + "there to be paid, and counts to ADVANCED)'");
        LayerBook x = new LayerBook();
        x.loan(3, 10099, 100, 60);
        x.loan(3, 20000, 50, 60);
        Due.law(x, "fail 0;late 1000;early 0;");
        x.run(1);
        Due.is("off", x.month(1, 3), 0);
        x.tell(2, 1);
        x.run(1);
        Due.is("on: i of each, cut", x.month(2, 3), 100 + 100);
        Due.is("CASH", x.month(2, 5), 200);
        Due.is("ADVANCED", x.count(9), 200);
        Due.is("rest took it", x.count(11), 200);
        x.tell(2, 0);
        x.run(1);
        Due.is("off again", x.month(3, 3), 0);
        Due.is("ADVANCED stands", x.count(9), 200);
        Due.is("CASH", x.month(3, 5), 0);
    }

    private static void advancesPaidBack() {
        Due.sentence("Terms 3, 'What is ADVANCED is paid back first, out of INTERESTS (with what is advanced in this month too), as far "
            + "as they go'");
        LayerBook x = new LayerBook();
        x.loan(3, 10000, 100, 3);
        x.loan(3, 10000, 70, 3);
        x.tell(2, 1);
        Due.law(x, "fail 0;late 1000*(rate=100 and month<3);early 0;");
        x.run(1);
        Due.is("as far as INTERESTS go", x.month(1, 4), 70);
        Due.is("ADVANCED", x.count(9), 30);
        Due.is("CASH", x.month(1, 5), 100);
        x.run(1);
        Due.is("month 2", x.month(2, 4), 70);
        Due.is("ADVANCED", x.count(9), 60);
        x.run(1);
        Due.is("INTERESTS", x.month(3, 0), 300 + 70);
        Due.is("no more than is ADVANCED", x.month(3, 4), 60);
        Due.is("ADVANCED", x.count(9), 0);
        Due.is("never out of PRINCIPALS", x.month(3, 5), 20000 + 370 - 60);
        LayerBook y = lawBook(3, 10000, 0, 3, "fail 0;late 1000;early 0;");
        y.tell(2, 1);
        y.run(1);
        Due.is("i of 0", y.month(1, 3), 0);
        LayerBook z = new LayerBook();
        z.loan(3, 10000, 100, 60);
        z.loan(3, 10000, 0, 2);
        z.tell(2, 1);
        Due.law(z, "fail 0;late 1000*(rate=100);early 0;");
        z.run(2);
        Due.is("PRINCIPALS pay nothing back", z.month(2, 4), 0);
        Due.is("CASH", z.month(2, 5), 10100);
    }
}
