/** The bounds of promises 1 to 8, and of the Terms they lean on: loans and papers as they are made and told, settings. */
public final class BoundsMakingTest {
    private static final int LEAST = Integer.MIN_VALUE, MOST = Integer.MAX_VALUE;

    public static void main(String[] args) {
        newObject();
        newObjectsAreAlone();
        constants();
        loanNumbers();
        loanBad();
        loanState();
        loanFull();
        loanFirstNamed();
        loanToldNumbers();
        loanToldPay();
        loanToldBad();
        paperNumbers();
        paperBad();
        paperState();
        paperFull();
        paperFirstNamed();
        paperToldNumbers();
        paperToldBad();
        lifeNone();
        lifeLowest();
        lifeNo();
        tellWas();
        tellBad();
        tripNumbers();
        tripBad();
        tripMonthsToCome();
        Due.end("BoundsMakingTest");
    }

    private static void newObject() {
        Due.sentence("Promise 1, 'TEXT 0, ORDER 0; MONTH 0'");
        LayerBook x = new LayerBook();
        int[] counts = {0, 0, 1, 1, 0, 0, 0, 0, 0, 0, 0, 0};
        for (int what = 0; what < counts.length; what++) {
            Due.is("count(" + what + ")", x.count(what), counts[what]);
        }
        Due.is("no month went by", x.month(1, 0), LayerBook.BAD);
        Due.is("no loan", x.loanTold(0, 0), LayerBook.BAD);
        Due.is("no paper", x.paperTold(0, 0), LayerBook.BAD);
        Due.sentence("Terms 3, 'TEXT 0, at first, and THE LAW, is: fail 0 ; late 0 ; early 0 ;'");
        x.loan(0, 1000, 0, 60);
        for (int part = 0; part < 3; part++) {
            Due.is("says(0, " + part + ")", x.says(0, part), 0);
        }
        Due.is("force(0)", x.force(0), 0);
        Due.sentence("Terms 4, 'ORDER 0, and THE ORDER of each month, at first, is: rest'");
        Due.is("steps", x.step(0, -1, 0), 1);
        int[] rest = {5, -1, -1, 0, -1, -1};
        for (int what = 0; what < rest.length; what++) {
            Due.is("step(0, 0, " + what + ")", x.step(0, 0, what), rest[what]);
        }
        Due.runTo(x, 60);
        Due.is("order of month 1", x.month(1, 11), 0);
        Due.is("order of month 60", x.month(60, 11), 0);
        Due.is("rest took all", x.count(11), 1000);
    }

    private static void newObjectsAreAlone() {
        Due.sentence("Promise 1, 'TEXT 0, ORDER 0; MONTH 0' of each object");
        LayerBook x = new LayerBook();
        LayerBook y = new LayerBook();
        x.loan(0, 1000, 0, 1);
        Due.law(x, "fail 7;late 7;early 7;");
        Due.orderFrom(x, 1, "keep 5;rest");
        x.run(1);
        Due.is("loans", y.count(0), 0);
        Due.is("texts", y.count(2), 1);
        Due.is("orders", y.count(3), 1);
        Due.is("MONTH", y.count(5), 0);
        Due.is("THE LAW", y.count(6), 0);
        y.loan(1, 1000, 0, 1);
        Due.is("says", y.says(0, 0), 0);
    }

    private static void constants() {
        Due.sentence("Terms, 'NONE is -1; NO .. -4611686018427387904 .. BAD (-2 ..), STATE (-3), FULL (-4)'");
        Due.is("NONE", LayerBook.NONE, -1);
        Due.is("BAD", LayerBook.BAD, -2);
        Due.is("STATE", LayerBook.STATE, -3);
        Due.is("FULL", LayerBook.FULL, -4);
        Due.is("NO", LayerBook.NO, -4611686018427387904L);
    }

    private static void loanNumbers() {
        Due.sentence("Promise 2, 'A LOAN: its number', with Terms 2, 'KIND: 0 .. 5; BALANCE (1000 .. 999999), RATE (0 .. 200), "
            + "MONTHS (1 .. 60)'");
        LayerBook x = new LayerBook();
        int[][] edges = {{0, 1000, 0, 1}, {5, 999999, 200, 60}, {0, 1001, 1, 2}, {5, 999998, 199, 59}, {1, 1000, 200, 60},
            {2, 999999, 0, 1}, {3, 1000, 200, 1}, {4, 999999, 0, 60}};
        for (int n = 0; n < edges.length; n++) {
            Due.is("loan " + n, x.loan(edges[n][0], edges[n][1], edges[n][2], edges[n][3]), n);
        }
        for (int n = 0; n < edges.length; n++) {
            for (int what = 0; what < 4; what++) {
                Due.is("loanTold(" + n + ", " + what + ")", x.loanTold(n, what), edges[n][what]);
            }
        }
    }

    private static void loanBad() {
        Due.sentence("Promise 2, 'BAD' (a number is none such or not as told)");
        int[][] bad = {{-1, 1000, 0, 1}, {6, 1000, 0, 1}, {LEAST, 1000, 0, 1}, {MOST, 1000, 0, 1},
            {0, 999, 0, 1}, {0, 1000000, 0, 1}, {0, 0, 0, 1}, {0, -1000, 0, 1}, {0, LEAST, 0, 1}, {0, MOST, 0, 1},
            {0, 1000, -1, 1}, {0, 1000, 201, 1}, {0, 1000, LEAST, 1}, {0, 1000, MOST, 1},
            {0, 1000, 0, 0}, {0, 1000, 0, 61}, {0, 1000, 0, -1}, {0, 1000, 0, LEAST}, {0, 1000, 0, MOST}};
        for (int[] b : bad) {
            Twins.refuse("loan(" + b[0] + ", " + b[1] + ", " + b[2] + ", " + b[3] + ")", Twins::fresh, LayerBook.BAD,
                x -> x.loan(b[0], b[1], b[2], b[3]));
        }
    }

    private static void loanState() {
        Due.sentence("Promise 2, 'STATE: a month went by'");
        Twins.answer("at MONTH 0", Twins::fresh, 3, x -> x.loan(0, 1000, 0, 1));
        Twins.refuse("behind month 5", Twins::gone, LayerBook.STATE, x -> x.loan(0, 1000, 0, 1));
        LayerBook x = new LayerBook();
        x.run(1);
        Due.is("behind month 1 of an empty book", x.loan(0, 1000, 0, 1), LayerBook.STATE);
        Due.is("loans", x.count(0), 0);
    }

    private static void loanFull() {
        Due.sentence("Promise 2, 'FULL', with Terms 1, 'LOANS (12 at most) .. are numbered from 0 as they come'");
        LayerBook x = new LayerBook();
        for (int n = 0; n < 12; n++) {
            Due.is("loan " + n, x.loan(0, 1000 + n, 0, 1), n);
        }
        Due.is("a 13th", x.loan(0, 2000, 0, 1), LayerBook.FULL);
        Due.is("loans", x.count(0), 12);
        Due.is("the last", x.loanTold(11, 1), 1011);
        Twins.refuse("a 13th", Twins::full, LayerBook.FULL, y -> y.loan(0, 1000, 0, 1));
    }

    private static void loanFirstNamed() {
        Due.sentence("Terms, 'Refusals, the first that the call's words name', with Promise 2, 'BAD; STATE; FULL'");
        Twins.refuse("BAD ahead of STATE", Twins::gone, LayerBook.BAD, x -> x.loan(6, 1000, 0, 1));
        Twins.refuse("BAD ahead of FULL", Twins::full, LayerBook.BAD, x -> x.loan(0, 999, 0, 1));
        Twins.refuse("STATE ahead of FULL", Twins::fullAndGone, LayerBook.STATE, x -> x.loan(0, 1000, 0, 1));
        Twins.refuse("BAD ahead of both", Twins::fullAndGone, LayerBook.BAD, x -> x.loan(0, 1000, 0, 61));
    }

    private static void loanToldNumbers() {
        Due.sentence("Promise 3, '0 KIND, 1 BALANCE, 2 RATE, 3 MONTHS, 4 OWED, 5 STATE, 6 PAY', with Terms 2, 'OWED (0 at "
            + "first)'");
        LayerBook x = new LayerBook();
        x.loan(5, 4321, 21, 43);
        int[] want = {5, 4321, 21, 43, 0, 0, 0};
        for (int what = 0; what < want.length; what++) {
            Due.is("loanTold(0, " + what + ")", x.loanTold(0, what), want[what]);
        }
    }

    private static void loanToldPay() {
        Due.sentence("Promise 3, '6 PAY (0: of none that is FIXED or under it, or ahead of the first month)'");
        LayerBook x = new LayerBook();
        for (int kind = 0; kind < 6; kind++) {
            x.loan(kind, 6000, 0, 60);
            Due.is("ahead, kind " + kind, x.loanTold(kind, 6), 0);
        }
        x.run(1);
        int[] pays = {0, 100, 100, 0, 100, 0};
        for (int kind = 0; kind < 6; kind++) {
            Due.is("behind month 1, kind " + kind, x.loanTold(kind, 6), pays[kind]);
        }
        Due.runTo(x, 60);
        for (int kind : new int[] {0, 3, 5}) {
            Due.is("behind month 60, kind " + kind, x.loanTold(kind, 6), 0);
        }
        Due.is("of a FIXED one that is done", x.loanTold(1, 6), 100);
    }

    private static void loanToldBad() {
        Due.sentence("Promise 3, 'BAD'");
        Due.is("of no loans", new LayerBook().loanTold(0, 0), LayerBook.BAD);
        int[][] bad = {{-1, 0}, {3, 0}, {12, 0}, {LEAST, 0}, {MOST, 0}, {0, -1}, {0, 7}, {0, LEAST}, {0, MOST}, {3, 7}};
        for (int[] b : bad) {
            Twins.refuse("loanTold(" + b[0] + ", " + b[1] + ")", Twins::fresh, LayerBook.BAD, x -> x.loanTold(b[0], b[1]));
        }
        Twins.answer("the last loan", Twins::fresh, 6000, x -> x.loanTold(2, 1));
        Twins.answer("the 12th loan", Twins::full, 5011, x -> x.loanTold(11, 1));
        Twins.refuse("behind the 12th", Twins::full, LayerBook.BAD, x -> x.loanTold(12, 1));
    }

    private static void paperNumbers() {
        Due.sentence("Promise 4, 'A PAPER: its number', with Terms 4, 'BALANCE (1 .. 9999999 COINS at first), a COUPON (0 .. "
            + "200), SHORT (0 at first)'");
        LayerBook x = new LayerBook();
        int[][] edges = {{1, 0}, {9999999, 200}, {2, 1}, {9999998, 199}, {1, 200}};
        for (int p = 0; p < edges.length; p++) {
            Due.is("paper " + p, x.paper(edges[p][0], edges[p][1]), p);
        }
        for (int p = 0; p < edges.length; p++) {
            for (int what = 0; what < 6; what++) {
                Due.is("paperTold(" + p + ", " + what + ")", x.paperTold(p, what), what < 2 ? edges[p][what] : 0);
            }
        }
    }

    private static void paperBad() {
        Due.sentence("Promise 4, 'BAD'");
        int[][] bad = {{0, 0}, {10000000, 0}, {-1, 0}, {LEAST, 0}, {MOST, 0}, {1, -1}, {1, 201}, {1, LEAST}, {1, MOST}};
        for (int[] b : bad) {
            Twins.refuse("paper(" + b[0] + ", " + b[1] + ")", Twins::fresh, LayerBook.BAD, x -> x.paper(b[0], b[1]));
        }
    }

    private static void paperState() {
        Due.sentence("Promise 4, 'STATE: a month went by'");
        Twins.answer("at MONTH 0", Twins::fresh, 2, x -> x.paper(1, 0));
        Twins.refuse("behind month 5", Twins::gone, LayerBook.STATE, x -> x.paper(1, 0));
        LayerBook x = new LayerBook();
        x.run(1);
        Due.is("behind month 1 of an empty book", x.paper(1, 0), LayerBook.STATE);
        Due.is("papers", x.count(1), 0);
    }

    private static void paperFull() {
        Due.sentence("Promise 4, 'FULL', with Terms 1, 'PAPERS (5) .. are numbered from 0 as they come'");
        LayerBook x = new LayerBook();
        for (int p = 0; p < 5; p++) {
            Due.is("paper " + p, x.paper(100 + p, 0), p);
        }
        Due.is("a 6th", x.paper(200, 0), LayerBook.FULL);
        Due.is("papers", x.count(1), 5);
        Due.is("the last", x.paperTold(4, 0), 104);
        Twins.refuse("a 6th", Twins::full, LayerBook.FULL, y -> y.paper(1, 0));
    }

    private static void paperFirstNamed() {
        Due.sentence("Terms, 'Refusals, the first that the call's words name', with Promise 4, 'BAD; STATE; FULL'");
        Twins.refuse("BAD ahead of STATE", Twins::gone, LayerBook.BAD, x -> x.paper(0, 0));
        Twins.refuse("BAD ahead of FULL", Twins::full, LayerBook.BAD, x -> x.paper(1, 201));
        Twins.refuse("STATE ahead of FULL", Twins::fullAndGone, LayerBook.STATE, x -> x.paper(1, 0));
        Twins.refuse("BAD ahead of both", Twins::fullAndGone, LayerBook.BAD, x -> x.paper(1, -1));
    }

    private static void paperToldNumbers() {
        Due.sentence("Promise 5, '0 BALANCE, 1 COUPON, 2 SHORT, 3 all interest that it got, 4 all PRINCIPAL, 5 WRITTEN DOWN in "
            + "all'");
        LayerBook x = new LayerBook();
        x.loan(3, 10000, 100, 60);
        x.paper(9000, 50);
        x.paper(2000, 100);
        Due.orderFrom(x, 1, "pay a;own a if month=2;rest");
        x.run(2);
        // Month 1: 45 to a, and 11000 is 1000 above the pool; month 2: 45 and 55 to a; b is never paid.
        int[][] want = {{9000 - 55, 50, 0, 90, 55, 0}, {1000, 100, 20 + 10, 0, 0, 1000}};
        for (int p = 0; p < 2; p++) {
            for (int what = 0; what < 6; what++) {
                Due.is("paperTold(" + p + ", " + what + ")", x.paperTold(p, what), want[p][what]);
            }
        }
    }

    private static void paperToldBad() {
        Due.sentence("Promise 5, 'BAD'");
        Due.is("of no papers", new LayerBook().paperTold(0, 0), LayerBook.BAD);
        int[][] bad = {{-1, 0}, {2, 0}, {5, 0}, {LEAST, 0}, {MOST, 0}, {0, -1}, {0, 6}, {0, LEAST}, {0, MOST}, {2, 6}};
        for (int[] b : bad) {
            Twins.refuse("paperTold(" + b[0] + ", " + b[1] + ")", Twins::fresh, LayerBook.BAD, x -> x.paperTold(b[0], b[1]));
        }
        Twins.answer("the 5th paper", Twins::full, 9004, x -> x.paperTold(4, 0));
        Twins.refuse("behind the 5th", Twins::full, LayerBook.BAD, x -> x.paperTold(5, 0));
    }

    /** A book whose paper a gets, and whose paper b never gets, principal from month 2 on. */
    private static LayerBook lifeBook() {
        LayerBook x = new LayerBook();
        x.loan(0, 6000, 0, 6);
        x.paper(5000, 0);
        x.paper(1000, 0);
        Due.orderFrom(x, 1, "pay b;own a if not month<2;rest");
        x.run(1);
        return x;
    }

    private static void lifeNone() {
        Due.sentence("Promise 6, 'what 0 above, 1 below the line', with Terms 5, 'below it above 0 (0 by 1: none)'");
        Twins.answer("above, at MONTH 0", Twins::fresh, 0, x -> x.life(0, 0));
        Twins.answer("below, at MONTH 0", Twins::fresh, 1, x -> x.life(1, 1));
        Twins.answer("above, without principal", BoundsMakingTest::lifeBook, 0, x -> x.life(0, 0));
        Twins.answer("below, without principal", BoundsMakingTest::lifeBook, 1, x -> x.life(0, 1));
        LayerBook x = lifeBook();
        x.run(1);
        Due.is("above, with principal", x.life(0, 0), 2);
        Due.is("below, with principal", x.life(0, 1), 1);
        Due.is("another one has none", x.life(1, 1), 1);
        Due.is("another one has none", x.life(1, 0), 0);
        x.amend(1, 0);
        Due.is("none any more", x.life(0, 0), 0);
        Due.is("none any more", x.life(0, 1), 1);
    }

    private static void lifeLowest() {
        Due.sentence("Promise 6, 'LIFE', with Terms 5, 'a fraction in lowest terms'");
        LayerBook x = lifeBook();
        x.run(2);
        // 1000 in month 2 and in month 3: 5000 by 2000.
        Due.is("above", x.life(0, 0), 5);
        Due.is("below", x.life(0, 1), 2);
        LayerBook y = new LayerBook();
        y.loan(3, 999999, 0, 60);
        y.paper(9999999, 0);
        Due.orderFrom(y, 1, "own a;rest");
        Due.runTo(y, 60);
        Due.is("all in month 60, above", y.life(0, 0), 60);
        Due.is("all in month 60, below", y.life(0, 1), 1);
        Due.is("what came", y.paperTold(0, 4), 999999);
    }

    private static void lifeNo() {
        Due.sentence("Promise 6, 'NO: none such'");
        Due.is("of no papers", new LayerBook().life(0, 0), LayerBook.NO);
        int[][] none = {{-1, 0}, {2, 0}, {5, 1}, {LEAST, 0}, {MOST, 1}, {0, -1}, {0, 2}, {0, LEAST}, {0, MOST}};
        for (int[] b : none) {
            Twins.refuse("life(" + b[0] + ", " + b[1] + ")", Twins::gone, LayerBook.NO, x -> x.life(b[0], b[1]));
        }
        Twins.answer("the 5th paper", Twins::full, 1, x -> x.life(4, 1));
        Twins.refuse("behind the 5th", Twins::full, LayerBook.NO, x -> x.life(5, 1));
    }

    private static void tellWas() {
        Due.sentence("Promise 7, 'what it was; what 0, 1, 2', with Terms 3, 'SEED (0 .. 99999) being 0 at first', 'BACK (0 .. "
            + "100; 50 at first)', 'ADVANCES (on or off; off at first)'");
        LayerBook x = new LayerBook();
        Due.is("SEED at first", x.tell(0, 99999), 0);
        Due.is("SEED 99999", x.tell(0, 0), 99999);
        Due.is("SEED 0", x.tell(0, 1), 0);
        Due.is("SEED 1", x.tell(0, 1), 1);
        Due.is("BACK at first", x.tell(1, 100), 50);
        Due.is("BACK 100", x.tell(1, 0), 100);
        Due.is("BACK 0", x.tell(1, 99), 0);
        Due.is("BACK 99", x.tell(1, 99), 99);
        Due.is("ADVANCES at first", x.tell(2, 1), 0);
        Due.is("ADVANCES on", x.tell(2, 1), 1);
        Due.is("ADVANCES on", x.tell(2, 0), 1);
        Due.is("ADVANCES off", x.tell(2, 0), 0);
    }

    private static void tellBad() {
        Due.sentence("Promise 7, 'BAD'");
        int[][] bad = {{-1, 0}, {3, 0}, {LEAST, 0}, {MOST, 0}, {0, -1}, {0, 100000}, {0, LEAST}, {0, MOST}, {1, -1}, {1, 101},
            {1, LEAST}, {1, MOST}, {2, -1}, {2, 2}, {2, LEAST}, {2, MOST}};
        for (int[] b : bad) {
            Twins.refuse("tell(" + b[0] + ", " + b[1] + ")", Twins::gone, LayerBook.BAD, x -> x.tell(b[0], b[1]));
        }
    }

    private static void tripNumbers() {
        Due.sentence("Promise 8, 'THE TRIP's bound and CURE: 1', with Terms 4, 'a bound of lost 0 .. 1000, a CURE of 1 .. 12 "
            + "months'");
        LayerBook x = new LayerBook();
        int[][] edges = {{0, 1}, {1000, 12}, {0, 12}, {1000, 1}, {1, 2}, {999, 11}};
        for (int[] e : edges) {
            Due.is("trip(" + e[0] + ", " + e[1] + ")", x.trip(e[0], e[1]), 1);
        }
    }

    private static void tripBad() {
        Due.sentence("Promise 8, 'BAD'");
        int[][] bad = {{-1, 1}, {1001, 1}, {LEAST, 1}, {MOST, 1}, {0, 0}, {0, 13}, {0, -1}, {0, LEAST}, {0, MOST}, {1001, 13}};
        for (int[] b : bad) {
            Twins.refuse("trip(" + b[0] + ", " + b[1] + ")", Twins::gone, LayerBook.BAD, x -> x.trip(b[0], b[1]));
        }
    }

    private static void tripMonthsToCome() {
        Due.sentence("Promise 8, 'For months to come; those that went by are as they were till AMENDED'");
        LayerBook x = new LayerBook();
        x.loan(3, 10000, 0, 60);
        Due.law(x, "fail 1000;late 0;early 0;");
        x.run(4);
        Due.is("the loss", x.month(4, 7), 5000);
        x.trip(0, 12);
        Due.is("month 4 is as it was", x.month(4, 10), 0);
        Due.is("off", x.count(10), 0);
        x.amend(5, 0);
        Due.is("month 4 as amended", x.month(4, 10), 1);
        Due.is("on", x.count(10), 1);
        x.trip(1000, 1);
        Due.is("on still", x.count(10), 1);
        x.run(1);
        Due.is("in month 5 with CURE 1", x.month(5, 10), 0);
        Due.is("month 4 is as it was", x.month(4, 10), 1);
    }
}
