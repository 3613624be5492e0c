/** The bounds of promises 16 to 22, and of Terms 5: months that go by, what is told of them, buying back, reports, beside. */
public final class BoundsMonthsTest {
    private static final int LEAST = Integer.MIN_VALUE, MOST = Integer.MAX_VALUE;

    public static void main(String[] args) {
        runNumbers();
        runBad();
        runFull();
        runFirstNamed();
        runOfNothing();
        monthFacts();
        monthBad();
        paidNone();
        paidBad();
        buyWhatWillBePaid();
        buyAheadOfMonthOne();
        buyInMonth60();
        buyBad();
        buyState();
        reportFirstPlace();
        reportNoStep();
        reportOfNone();
        reportBad();
        reportSorts();
        reportMissing();
        reportOutside();
        reportFirstNamed();
        besideMonths();
        besideWhat();
        besideNo();
        besideChangesNothing();
        countNumbers();
        countBad();
        Due.end("BoundsMonthsTest");
    }

    private static LayerBook empty() {
        return new LayerBook();
    }

    private static LayerBook emptyAt(int month) {
        LayerBook x = new LayerBook();
        Due.runTo(x, month);
        return x;
    }

    private static void runNumbers() {
        Due.sentence("Promise 16, 'n months (1 .. 12) go by: MONTH'");
        Twins.answer("run(1)", BoundsMonthsTest::empty, 1, x -> x.run(1));
        Twins.answer("run(12)", BoundsMonthsTest::empty, 12, x -> x.run(12));
        Twins.answer("run(11)", Twins::gone, 16, x -> x.run(11));
        LayerBook x = Twins.fresh();
        LayerBook y = Twins.fresh();
        x.run(12);
        for (int i = 1; i <= 12; i++) {
            Due.is("one by one", y.run(1), i);
        }
        Due.same("twelve at once are twelve times one", Twins.told(x), Twins.told(y));
    }

    private static void runBad() {
        Due.sentence("Promise 16, 'BAD'");
        for (int n : new int[] {0, 13, -1, LEAST, MOST}) {
            Twins.refuse("run(" + n + ")", Twins::gone, LayerBook.BAD, x -> x.run(n));
        }
        Twins.refuse("run(0) at MONTH 0", Twins::fresh, LayerBook.BAD, x -> x.run(0));
    }

    private static void runFull() {
        Due.sentence("Promise 16, 'FULL: beyond 60', with Terms, 'MONTH is 0 at first, 60 at most'");
        Twins.answer("48 and 12", () -> emptyAt(48), 60, x -> x.run(12));
        Twins.refuse("49 and 12", () -> emptyAt(49), LayerBook.FULL, x -> x.run(12));
        Twins.answer("49 and 11", () -> emptyAt(49), 60, x -> x.run(11));
        Twins.answer("59 and 1", () -> emptyAt(59), 60, x -> x.run(1));
        Twins.refuse("59 and 2", () -> emptyAt(59), LayerBook.FULL, x -> x.run(2));
        Twins.refuse("60 and 1", Twins::last, LayerBook.FULL, x -> x.run(1));
        Twins.refuse("60 and 12", Twins::last, LayerBook.FULL, x -> x.run(12));
    }

    private static void runFirstNamed() {
        Due.sentence("Terms, 'Refusals, the first that the call's words name', with Promise 16, 'BAD; FULL'");
        Twins.refuse("13 beyond 60", Twins::last, LayerBook.BAD, x -> x.run(13));
        Twins.refuse("0 at 60", Twins::last, LayerBook.BAD, x -> x.run(0));
    }

    private static void runOfNothing() {
        Due.sentence("Promise 16, 'n months go by', of no loans and no papers");
        LayerBook x = emptyAt(12);
        for (int k = 1; k <= 12; k++) {
            for (int what = 0; what < 12; what++) {
                Due.is("month(" + k + ", " + what + ")", x.month(k, what), 0);
            }
            Due.is("rest took nothing", x.paid(k, 0), 0);
        }
    }

    private static void monthFacts() {
        Due.sentence("Promise 17, '0 INTERESTS, 1 PRINCIPALS, 2 BACKS, 3 advanced, 4 paid back of ADVANCED, 5 CASH, 6 POOL behind it, 7 "
            + "LOSS, 8 LATE, 9 RESERVE behind it, 10 THE TRIP in it, 11 its ORDER'");
        LayerBook x = new LayerBook();
        x.loan(3, 10000, 100, 60);
        x.loan(3, 20000, 30, 60);
        x.loan(3, 4001, 0, 60);
        x.loan(3, 5000, 0, 4);
        x.tell(2, 1);
        x.trip(50, 5);
        Due.law(x, "fail 1000*(balance=4001);late 1000*(rate=100 and month=4);early 0;");
        Due.orderFrom(x, 1, "keep 33;rest");
        x.run(4);
        // CASH: 60 and 5000 and 2000 and 100, less 60, and RESERVE 33; LOSS is 2001 of 39001, which is 51 of 1000.
        int[] want = {60, 5000, 2000, 100, 60, 60 + 5000 + 2000 + 100 - 60 + 33, 30000, 2001, 1, 33, 1, 1};
        for (int what = 0; what < want.length; what++) {
            Due.is("month(4, " + what + ")", x.month(4, what), want[what]);
        }
        int[] first = {160, 0, 0, 0, 0, 160, 39001, 0, 0, 33, 0, 1};
        for (int what = 0; what < first.length; what++) {
            Due.is("month(1, " + what + ")", x.month(1, what), first[what]);
        }
    }

    private static void monthBad() {
        Due.sentence("Promise 17, 'Of month k (1 .. MONTH)', 'BAD'");
        Twins.refuse("month 1 at MONTH 0", Twins::fresh, LayerBook.BAD, x -> x.month(1, 0));
        Twins.refuse("month 0 at MONTH 0", Twins::fresh, LayerBook.BAD, x -> x.month(0, 0));
        int[][] bad = {{0, 0}, {6, 0}, {-1, 0}, {LEAST, 0}, {MOST, 0}, {1, -1}, {1, 12}, {1, LEAST}, {1, MOST}, {0, 11},
            {6, 11}, {6, 12}};
        for (int[] b : bad) {
            Twins.refuse("month(" + b[0] + ", " + b[1] + ")", Twins::gone, LayerBook.BAD, x -> x.month(b[0], b[1]));
        }
        Twins.answer("month 60", Twins::last, 1, x -> x.month(60, 11));
        Twins.refuse("month 61", Twins::last, LayerBook.BAD, x -> x.month(61, 11));
        Twins.refuse("month 62", Twins::last, LayerBook.BAD, x -> x.month(62, 0));
    }

    private static void paidNone() {
        Due.sentence("Promise 18, 'What STEP i of its ORDER took in month k. NONE: no such STEP'");
        LayerBook x = new LayerBook();
        x.loan(3, 10000, 100, 60);
        Due.order(x, "fee 1;fee 2;fee 3;fee 4;fee 5;fee 6;fee 7;fee 8;fee 9;rest");
        x.run(1);
        x.amend(2, 1);
        x.run(1);
        Due.is("step 0 of ORDER 0", x.paid(1, 0), 100);
        Due.is("step 1 of ORDER 0", x.paid(1, 1), LayerBook.NONE);
        for (int i = 0; i < 9; i++) {
            Due.is("step " + i + " of ten", x.paid(2, i), i + 1);
        }
        Due.is("the tenth", x.paid(2, 9), 55);
        for (int i : new int[] {-1, 10, 11, LEAST, MOST}) {
            Due.is("step " + i, x.paid(2, i), LayerBook.NONE);
            Due.is("step " + i + " of ORDER 0", x.paid(1, i), LayerBook.NONE);
        }
        x.amend(2, 0);
        Due.is("as amended, step 0", x.paid(2, 0), 100);
        Due.is("as amended, step 1", x.paid(2, 1), LayerBook.NONE);
        Twins.refuse("none such", Twins::gone, LayerBook.NONE, y -> y.paid(5, 5));
        Twins.refuse("none such", Twins::gone, LayerBook.NONE, y -> y.paid(1, -1));
    }

    private static void paidBad() {
        Due.sentence("Promise 18, 'BAD: month'");
        Twins.refuse("month 1 at MONTH 0", Twins::fresh, LayerBook.BAD, x -> x.paid(1, 0));
        for (int k : new int[] {0, 6, -1, 61, LEAST, MOST}) {
            Twins.refuse("paid(" + k + ", 0)", Twins::gone, LayerBook.BAD, x -> x.paid(k, 0));
        }
        Twins.answer("month 60", Twins::last, LayerBook.NONE, x -> x.paid(60, 5));
        Twins.refuse("month 61", Twins::last, LayerBook.BAD, x -> x.paid(61, 0));
    }

    /** One loan that is paying, and one that is late and owes 150. */
    private static LayerBook buyBook() {
        LayerBook x = new LayerBook();
        x.loan(3, 10000, 100, 60);
        x.loan(3, 5000, 100, 60);
        Due.law(x, "fail 1000*(month=6);late 1000*(balance=5000);early 0;");
        x.run(3);
        return x;
    }

    private static void buyWhatWillBePaid() {
        Due.sentence("Promise 19, 'in the next month its BALANCE and OWED are paid (as PRINCIPAL, INTEREST), at once it is in STATE 6 (no "
            + "INTEREST more): what will be paid'");
        LayerBook x = buyBook();
        Due.is("one that is paying", x.buy(0), 10000);
        Due.is("one that is late", x.buy(1), 5150);
        for (int n = 0; n < 2; n++) {
            Due.is("at once STATE 6", x.loanTold(n, 5), 6);
        }
        Due.is("BALANCE till it is paid", x.loanTold(1, 1), 5000);
        Due.is("OWED till it is paid", x.loanTold(1, 4), 150);
        Due.is("POOL", x.count(7), 0);
        Due.is("LATE of the month that went by", x.month(3, 8), 1);
        Due.is("its POOL", x.month(3, 6), 15000);
        x.run(1);
        Due.is("as INTEREST", x.month(4, 0), 150);
        Due.is("as PRINCIPAL", x.month(4, 1), 15000);
        Due.is("LATE", x.month(4, 8), 0);
        Due.is("POOL", x.month(4, 6), 0);
        for (int n = 0; n < 2; n++) {
            Due.is("BALANCE behind", x.loanTold(n, 1), 0);
            Due.is("OWED behind", x.loanTold(n, 4), 0);
            Due.is("STATE behind", x.loanTold(n, 5), 6);
        }
        x.run(3);
        Due.is("no lot falls on it", x.loanTold(0, 5), 6);
        Due.is("nothing more comes", x.month(5, 5) + x.month(6, 5) + x.month(7, 5), 0);
    }

    private static void buyAheadOfMonthOne() {
        Due.sentence("Promise 19, 'A LOAN that is paying or late is bought back', ahead of month 1");
        LayerBook x = new LayerBook();
        x.loan(0, 10000, 100, 10);
        x.loan(0, 6000, 100, 1);
        Due.order(x, "fee 100;keep 7 if lost=0;rest");
        x.amend(1, 1);
        Due.is("what will be paid", x.buy(0), 10000);
        Due.is("POOL", x.count(7), 6000);
        x.run(1);
        Due.is("INTERESTS", x.month(1, 0), 60);
        Due.is("PRINCIPALS", x.month(1, 1), 16000);
        Due.is("a fee of the POOL without it", x.paid(1, 0), 60);
        Due.is("lost", x.paid(1, 1), 7);
    }

    private static void buyInMonth60() {
        Due.sentence("Promise 19, 'what will be paid', when no month is left");
        LayerBook x = new LayerBook();
        x.loan(3, 10000, 100, 60);
        Due.law(x, "fail 0;late 1000*(month=60);early 0;");
        Due.runTo(x, 60);
        Due.is("late in month 60", x.buy(0), 10100);
        Due.is("STATE", x.loanTold(0, 5), 6);
        Due.is("BALANCE", x.loanTold(0, 1), 10000);
        Due.is("no month more", x.run(1), LayerBook.FULL);
        Due.is("OWED", x.loanTold(0, 4), 100);
    }

    private static void buyBad() {
        Due.sentence("Promise 19, 'BAD'");
        for (int loan : new int[] {-1, 3, 12, LEAST, MOST}) {
            Twins.refuse("buy(" + loan + ")", Twins::gone, LayerBook.BAD, x -> x.buy(loan));
        }
        Twins.refuse("of no loans", BoundsMonthsTest::empty, LayerBook.BAD, x -> x.buy(0));
        Twins.answer("the 12th", Twins::full, 5011, x -> x.buy(11));
        Twins.refuse("behind the 12th", Twins::full, LayerBook.BAD, x -> x.buy(12));
    }

    /** LOAN n is in STATE n + 2 (early, failed, sold, done, bought back). */
    private static LayerBook endedBook() {
        LayerBook x = new LayerBook();
        for (int n = 0; n < 5; n++) {
            x.loan(3, 1000, n, n == 3 ? 2 : 60);
        }
        Due.law(x, "fail 1000*(rate=1 and month=4 or rate=2);late 0;early 1000*(rate=0);");
        x.run(4);
        x.buy(4);
        return x;
    }

    private static void buyState() {
        Due.sentence("Promise 19, 'STATE' (it is neither paying nor late)");
        for (int n = 0; n < 5; n++) {
            int loan = n;
            Twins.answer("STATE of LOAN " + n, BoundsMonthsTest::endedBook, n + 2, x -> x.loanTold(loan, 5));
            Twins.refuse("buy(" + n + ")", BoundsMonthsTest::endedBook, LayerBook.STATE, x -> x.buy(loan));
        }
        Twins.refuse("BAD is no LOAN's", BoundsMonthsTest::endedBook, LayerBook.BAD, x -> x.buy(5));
        Twins.refuse("bought back and paid", () -> {
            LayerBook x = endedBook();
            x.run(1);
            return x;
        }, LayerBook.STATE, x -> x.buy(4));
    }

    /** Three steps take 10, 20 and 70 of the only month; sheet 0 of ints and sheet 1 of shorts hold that from 2 on. */
    private static LayerBook reportBook() {
        LayerBook x = new LayerBook();
        x.loan(3, 10000, 100, 60);
        Due.order(x, "fee 10;keep 20;rest");
        x.amend(1, 1);
        x.run(1);
        int[] took = {10, 20, 70};
        x.sheet(0, 2, 40);
        x.sheet(1, 1, 5);
        x.sheet(2, 0, 0);
        for (int i = 0; i < 3; i++) {
            x.cell(0, 2 + i, took[i]);
            x.cell(1, 2 + i, took[i]);
        }
        return x;
    }

    private static void reportFirstPlace() {
        Due.sentence("Promise 20, 'held against what STEPS took: the first place (0 on) that differs .. ; NONE: none'");
        Twins.refuse("none differs", BoundsMonthsTest::reportBook, LayerBook.NONE, x -> x.report(1, 0, 2, 2, 3));
        Twins.refuse("none differs, of shorts", BoundsMonthsTest::reportBook, LayerBook.NONE, x -> x.report(1, 1, 1, 2, 3));
        Twins.refuse("place 0", BoundsMonthsTest::reportBook, 0, x -> x.report(1, 0, 2, 1, 3));
        for (int place = 0; place < 3; place++) {
            for (int off = -1; off < 2; off += 2) {
                LayerBook x = reportBook();
                x.cell(0, 2 + place, x.paid(1, place) + off);
                Due.is("place " + place, x.report(1, 0, 2, 2, 3), place);
                Due.is("held till there", x.report(1, 0, 2, 2, place), LayerBook.NONE);
                x.cell(0, 4, 71);
                Due.is("the first of two", x.report(1, 0, 2, 2, 3), place);
            }
        }
        LayerBook x = reportBook();
        x.amend(1, 0);
        Due.is("what STEPS took, as amended", x.report(1, 0, 2, 2, 3), 0);
        x.cell(0, 2, 100);
        Due.is("then there is one STEP", x.report(1, 0, 2, 2, 3), 1);
    }

    private static void reportNoStep() {
        Due.sentence("Promise 20, '(where there is no such STEP it is held against 0)'");
        LayerBook x = reportBook();
        Due.is("0", x.report(1, 0, 2, 2, 10), LayerBook.NONE);
        for (int place = 3; place < 10; place++) {
            x.cell(0, 2 + place, -1);
            Due.is("place " + place, x.report(1, 0, 2, 2, 10), place);
            Due.is("held till there", x.report(1, 0, 2, 2, place), LayerBook.NONE);
            x.cell(0, 2 + place, 0);
        }
    }

    private static void reportOfNone() {
        Due.sentence("Promise 20, 'n numbers of a SHEET .. n (0 .. 10)', with n = 0: none differs, and no place is asked");
        Twins.refuse("n 0", BoundsMonthsTest::reportBook, LayerBook.NONE, x -> x.report(1, 0, 2, 0, 0));
        Twins.refuse("n 0 behind the last", BoundsMonthsTest::reportBook, LayerBook.NONE, x -> x.report(1, 1, 1, 5, 0));
        Twins.refuse("n 0 of a sheet of none", BoundsMonthsTest::reportBook, LayerBook.NONE, x -> x.report(1, 2, 0, 0, 0));
        Twins.refuse("n 10", BoundsMonthsTest::reportBook, LayerBook.NONE, x -> x.report(1, 0, 2, 2, 10));
    }

    private static void reportBad() {
        Due.sentence("Promise 20, 'BAD: month, SHEET, sort, n (0 .. 10)'");
        int[][] bad = {{0, 0, 2, 0, 1}, {2, 0, 2, 0, 1}, {-1, 0, 2, 0, 1}, {LEAST, 0, 2, 0, 1}, {MOST, 0, 2, 0, 1},
            {1, -1, 2, 0, 1}, {1, 4, 2, 0, 1}, {1, LEAST, 2, 0, 1}, {1, MOST, 2, 0, 1}, {1, 0, -1, 0, 1}, {1, 0, 3, 0, 1},
            {1, 0, LEAST, 0, 1}, {1, 0, MOST, 0, 1}, {1, 0, 2, 0, -1}, {1, 0, 2, 0, 11}, {1, 0, 2, 0, LEAST},
            {1, 0, 2, 0, MOST}};
        for (int[] b : bad) {
            Twins.refuse("report(" + b[0] + ", " + b[1] + ", " + b[2] + ", " + b[3] + ", " + b[4] + ")",
                BoundsMonthsTest::reportBook,
                LayerBook.BAD, x -> x.report(b[0], b[1], b[2], b[3], b[4]));
        }
        Twins.refuse("at MONTH 0", Twins::fresh, LayerBook.BAD, x -> x.report(1, 0, 2, 0, 1));
        Twins.refuse("month 61", Twins::last, LayerBook.BAD, x -> x.report(61, 0, 2, 0, 1));
        Twins.answer("month 60", Twins::last, LayerBook.NONE, x -> x.report(60, 0, 2, 0, 0));
    }

    private static void reportSorts() {
        Due.sentence("Promise 20, '-13' (a thing of another sort)");
        int[][] unlike = {{0, 0}, {0, 1}, {1, 0}, {1, 2}, {2, 1}, {2, 2}};
        for (int[] u : unlike) {
            Twins.refuse("sheet " + u[0] + " for sort " + u[1], BoundsMonthsTest::reportBook, -13, x -> x.report(1, u[0], u[1],
                0, 1));
            Twins.refuse("n 0, sheet " + u[0] + " for sort " + u[1], BoundsMonthsTest::reportBook, -13, x -> x.report(1, u[0],
                u[1], 0, 0));
        }
    }

    private static void reportMissing() {
        Due.sentence("Promise 20, '-11' (nothing where something is asked)");
        for (int sort = 0; sort < 3; sort++) {
            int told = sort;
            Twins.refuse("sort " + sort, BoundsMonthsTest::reportBook, -11, x -> x.report(1, 3, told, 0, 1));
            Twins.refuse("n 0, sort " + sort, BoundsMonthsTest::reportBook, -11, x -> x.report(1, 3, told, 0, 0));
        }
    }

    private static void reportOutside() {
        Due.sentence("Promise 20, '-12' (a place outside)");
        int[][] outside = {{-1, 1}, {5, 1}, {4, 2}, {-1, 3}, {-1, 10}, {0, 6}, {0, 10}, {LEAST, 1}, {LEAST, 10}, {MOST, 1},
            {MOST, 10},
            {MOST - 3, 10}, {3, 3}};
        for (int[] o : outside) {
            Twins.refuse("from " + o[0] + " n " + o[1], BoundsMonthsTest::reportBook, -12, x -> x.report(1, 1, 1, o[0], o[1]));
        }
        Twins.refuse("a sheet of none", BoundsMonthsTest::reportBook, -12, x -> x.report(1, 2, 0, 0, 1));
        Twins.refuse("a sheet of 40, behind", BoundsMonthsTest::reportBook, -12, x -> x.report(1, 0, 2, 31, 10));
        Twins.refuse("a sheet of 40, its last", BoundsMonthsTest::reportBook, 0, x -> x.report(1, 0, 2, 30, 10));
        Twins.refuse("a sheet of 5, its last", BoundsMonthsTest::reportBook, 0, x -> x.report(1, 1, 1, 4, 1));
    }

    private static void reportFirstNamed() {
        Due.sentence("Terms, 'Refusals, the first that the call's words name', with Promise 20, 'BAD ..; -13; -11; -12'");
        Twins.refuse("BAD n, another sort", BoundsMonthsTest::reportBook, LayerBook.BAD, x -> x.report(1, 0, 0, 0, 11));
        Twins.refuse("BAD month, missing", BoundsMonthsTest::reportBook, LayerBook.BAD, x -> x.report(2, 3, 0, 0, 1));
        Twins.refuse("BAD n, missing", BoundsMonthsTest::reportBook, LayerBook.BAD, x -> x.report(1, 3, 0, 0, -1));
        Twins.refuse("BAD sort, outside", BoundsMonthsTest::reportBook, LayerBook.BAD, x -> x.report(1, 0, 3, 99, 1));
        Twins.refuse("another sort, outside", BoundsMonthsTest::reportBook, -13, x -> x.report(1, 0, 1, 99, 1));
        Twins.refuse("missing, outside", BoundsMonthsTest::reportBook, -11, x -> x.report(1, 3, 1, 99, 1));
        LayerBook x = reportBook();
        x.cell(1, 2, 11);
        Due.is("outside ahead of what differs", x.report(1, 1, 1, 2, 4), -12);
        Due.is("what differs", x.report(1, 1, 1, 2, 3), 0);
    }

    private static void besideMonths() {
        Due.sentence("Promise 21, 'n months (1 .. 12, to MONTH 60 at most) with a SEED'");
        Twins.refuse("n 1", BoundsMonthsTest::buyBook, 100, x -> x.beside(1, 0, 2));
        LayerBook x = new LayerBook();
        x.loan(3, 10000, 100, 60);
        for (int n = 1; n <= 12; n++) {
            Due.is("n " + n, x.beside(n, 99999, 2), 100 * n);
        }
        Due.runTo(x, 48);
        Due.is("48 and 12", x.beside(12, 0, 1), 10000);
        Due.is("48 and 11", x.beside(11, 0, 1), 0);
        x.run(1);
        Due.is("49 and 12", x.beside(12, 0, 1), LayerBook.NO);
        Due.is("49 and 11", x.beside(11, 0, 1), 10000);
        x.run(10);
        Due.is("59 and 1", x.beside(1, 0, 1), 10000);
        Due.is("59 and 2", x.beside(2, 0, 1), LayerBook.NO);
        x.run(1);
        Due.is("60 and 1", x.beside(1, 0, 1), LayerBook.NO);
    }

    private static void besideWhat() {
        Due.sentence("Promise 21, '0 LOSS of these, 1 PRINCIPALS, 2 INTERESTS, 3 + p what PAPER p got in these (interest, PRINCIPAL)'");
        for (int seed : new int[] {0, 1, 4711, 99999}) {
            LayerBook x = Twins.gone();
            long[] told = new long[5];
            for (int what = 0; what < 5; what++) {
                told[what] = x.beside(7, seed, what);
            }
            int gotA = x.paperTold(0, 3) + x.paperTold(0, 4);
            int gotB = x.paperTold(1, 3) + x.paperTold(1, 4);
            x.tell(0, seed);
            x.run(7);
            long[] came = {0, 0, 0, x.paperTold(0, 3) + x.paperTold(0, 4) - gotA, x.paperTold(1, 3) + x.paperTold(1, 4) - gotB};
            for (int k = 6; k <= 12; k++) {
                came[0] += x.month(k, 7);
                came[1] += x.month(k, 1);
                came[2] += x.month(k, 0);
            }
            for (int what = 0; what < 5; what++) {
                Due.is("SEED " + seed + " what " + what, told[what], came[what]);
            }
        }
    }

    private static void besideNo() {
        Due.sentence("Promise 21, 'NO: none such, or beyond MONTH 60'");
        int[][] none = {{0, 0, 0}, {13, 0, 0}, {-1, 0, 0}, {LEAST, 0, 0}, {MOST, 0, 0}, {1, -1, 0}, {1, 100000, 0},
            {1, LEAST, 0},
            {1, MOST, 0}, {1, 0, -1}, {1, 0, 5}, {1, 0, 8}, {1, 0, LEAST}, {1, 0, MOST}};
        for (int[] b : none) {
            Twins.refuse("beside(" + b[0] + ", " + b[1] + ", " + b[2] + ")", Twins::gone, LayerBook.NO, x -> x.beside(b[0],
                b[1], b[2]));
        }
        Twins.refuse("of no papers", BoundsMonthsTest::empty, LayerBook.NO, x -> x.beside(1, 0, 3));
        Twins.refuse("of no papers, LOSS", BoundsMonthsTest::empty, 0, x -> x.beside(1, 0, 0));
        Twins.refuse("behind the 5th paper", Twins::full, LayerBook.NO, x -> x.beside(1, 0, 8));
        LayerBook x = Twins.full();
        Due.is("the 5th paper", x.beside(1, 0, 7), 0);
        Twins.refuse("beyond MONTH 60", Twins::last, LayerBook.NO, y -> y.beside(1, 0, 0));
    }

    private static void besideChangesNothing() {
        Due.sentence("Terms 5, 'BESIDE: .. nothing changes'");
        for (int what = 0; what < 5; what++) {
            int told = what;
            long answer = Twins.gone().beside(12, 99999, what);
            Twins.refuse("beside(12, 99999, " + what + ")", Twins::gone, answer, x -> x.beside(12, 99999, told));
        }
    }

    private static void countNumbers() {
        Due.sentence("Promise 22, '0 LOANS, 1 PAPERS, 2 TEXTS, 3 ORDERS, 4 bytes of THE TAPE, 5 MONTH, 6 THE LAW, 7 POOL, 8 RESERVE, 9 "
            + "ADVANCED, 10 whether THE TRIP is on (1, 0), 11 all that rest took'");
        LayerBook x = new LayerBook();
        x.loan(3, 9000, 100, 60);
        x.loan(3, 2000, 0, 60);
        x.paper(5, 0);
        x.paper(6, 0);
        x.paper(7, 0);
        x.tell(2, 1);
        x.trip(0, 9);
        Due.law(x, "fail 1000*(balance=2000);late 1000*(balance=9000);early 0;");
        Due.orderFrom(x, 1, "keep 30;rest");
        Due.order(x, "rest");
        Due.order(x, "rest");
        x.run(4);
        x.feed(5, 0);
        // Each month 90 is advanced, in month 4 1000 come back; all but 30 goes to rest.
        int[] want = {2, 3, 2, 4, 5, 4, 1, 9000, 30, 360, 1, 4 * 90 + 1000 - 30};
        for (int what = 0; what < want.length; what++) {
            Due.is("count(" + what + ")", x.count(what), want[what]);
        }
    }

    private static void countBad() {
        Due.sentence("Promise 22, 'BAD'");
        for (int what : new int[] {-1, 12, LEAST, MOST}) {
            Twins.refuse("count(" + what + ")", Twins::gone, LayerBook.BAD, x -> x.count(what));
        }
    }
}
