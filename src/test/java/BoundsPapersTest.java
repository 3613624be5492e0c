/** The bounds of Terms 4 and 5 on which promises 5, 6, 17, 18 and 22 lean: how a month's cash is paid to papers. */
public final class BoundsPapersTest {
    public static void main(String[] args) {
        dueIsCut();
        dueOfBalanceAsItBegins();
        shortStands();
        cashOfNothing();
        cashGoesSoFar();
        feeIsCut();
        payOnce();
        ownIsBalance();
        partOfPrincipals();
        keepAtLeast();
        reserveIsCashAgain();
        restTakesAll();
        writtenDownEdge();
        writtenDownFromTheLast();
        testsOfMonth();
        testsOfLate();
        testsOfLost();
        lostOfNoPool();
        testsOfCover();
        coverMost();
        testsOfTrip();
        tripBound();
        tripCure();
        tripAtFirst();
        tripOfOneCoin();
        tripQuiet();
        tripOnInMonthOfLoss();
        lifeOfOwnAndPart();
        lifeOfOneCoin();
        Due.end("BoundsPapersTest");
    }

    /** One BULLET loan, so that each month brings its interest till month 60. */
    private static LayerBook bulletBook(int balance, int rate, String order, int... papers) {
        LayerBook x = new LayerBook();
        x.loan(3, balance, rate, 60);
        for (int i = 0; i < papers.length; i += 2) {
            Due.is("paper", x.paper(papers[i], papers[i + 1]), i / 2);
        }
        Due.orderFrom(x, 1, order);
        return x;
    }

    private static void dueIsCut() {
        Due.sentence("Terms 4, 'DUE in a month: BALANCE (as it begins) times COUPON by 10000, and SHORT', with Terms, 'quotients are cut'");
        int[][] cases = {{10000, 0, 0}, {9999, 1, 0}, {10000, 1, 1}, {19999, 1, 1}, {99, 100, 0}, {100, 100, 1},
            {49, 200, 0}, {50, 200, 1},
            {100000, 200, 2000}, {99999, 199, 1989}};
        for (int[] c : cases) {
            LayerBook x = bulletBook(999999, 200, "pay a;rest", c[0], c[1]);
            x.run(1);
            Due.is("BALANCE " + c[0] + " COUPON " + c[1], x.paid(1, 0), c[2]);
            Due.is("nothing is SHORT", x.paperTold(0, 2), 0);
        }
        LayerBook x = new LayerBook();
        x.paper(9999999, 200);
        x.run(1);
        Due.is("the largest DUE", x.paperTold(0, 2), 199999);
    }

    private static void dueOfBalanceAsItBegins() {
        Due.sentence("Terms 4, 'BALANCE (as it begins)'");
        LayerBook x = new LayerBook();
        x.loan(0, 20000, 0, 20);
        x.paper(10000, 100);
        Due.orderFrom(x, 1, "part a 50;pay a;part a 50;rest");
        x.run(2);
        Due.is("DUE of month 1", x.paid(1, 1), 100);
        Due.is("cash is gone", x.paid(1, 2), 400);
        Due.is("DUE of month 2", x.paid(2, 1), 91);
    }

    private static void shortStands() {
        Due.sentence("Terms 4, 'SHORT of a PAPER is what it was DUE and was not paid', and no COUPON is due on it");
        LayerBook x = bulletBook(10000, 100, "pay a if month=3;rest", 5000, 50, 1000, 0);
        x.run(2);
        Due.is("of two months", x.paperTold(0, 2), 50);
        Due.is("with COUPON 0", x.paperTold(1, 2), 0);
        x.run(1);
        Due.is("all that was SHORT is DUE", x.paid(3, 0), 75);
        Due.is("none is SHORT", x.paperTold(0, 2), 0);
        x.run(1);
        Due.is("then one month", x.paperTold(0, 2), 25);
        LayerBook y = bulletBook(10000, 1, "pay a;rest", 10000, 100);
        y.run(1);
        Due.is("part of it is paid", y.paperTold(0, 2), 99);
        Due.is("interest that it got", y.paperTold(0, 3), 1);
        Due.runTo(y, 59);
        Due.is("SHORT of 59 months", y.paperTold(0, 2), 59 * 99);
        LayerBook z = bulletBook(1000, 0, "pay a;rest", 9999999, 200);
        z.run(1);
        Due.is("SHORT of a paper that is written down", z.paperTold(0, 2), 199999);
        Due.is("its BALANCE", z.paperTold(0, 0), 1000);
        z.run(1);
        Due.is("it stands", z.paperTold(0, 2), 199999 + 20);
    }

    private static void cashOfNothing() {
        Due.sentence("Terms 4, 'STEPS .. take what they wish, as far as CASH goes', of CASH 0");
        LayerBook x = bulletBook(10000, 0, "fee 9999;pay a;own a;part a 9999;keep 9999;rest", 5000, 200);
        x.run(1);
        Due.is("CASH", x.month(1, 5), 0);
        for (int i = 0; i < 6; i++) {
            Due.is("step " + i, x.paid(1, i), 0);
        }
        Due.is("SHORT", x.paperTold(0, 2), 100);
    }

    private static void cashGoesSoFar() {
        Due.sentence("Terms 4, 'STEPS, in order, .. as far as CASH goes'");
        int[][] cases = {{99, 1}, {100, 0}, {101, 0}};
        for (int[] c : cases) {
            LayerBook x = bulletBook(10000, 100, "keep " + c[0] + ";keep 9999;rest");
            x.run(1);
            Due.is("the first keep of " + c[0], x.paid(1, 0), Math.min(100, c[0]));
            Due.is("what is left", x.paid(1, 1), c[1]);
            Due.is("rest", x.paid(1, 2), 0);
            Due.is("RESERVE", x.month(1, 9), 100);
        }
    }

    private static void feeIsCut() {
        Due.sentence("Terms 4, 'fee N: POOL as the month began times N by 10000', with Terms, 'quotients are cut'");
        int[][] cases = {{10000, 1, 1}, {9999, 1, 0}, {19999, 1, 1}, {10000, 0, 0}, {999999, 9, 899}, {12345, 100, 123}};
        for (int[] c : cases) {
            LayerBook x = bulletBook(c[0], 200, "fee " + c[1] + ";rest");
            x.run(1);
            Due.is("POOL " + c[0] + " fee " + c[1], x.paid(1, 0), c[2]);
        }
        LayerBook x = new LayerBook();
        x.loan(0, 10000, 0, 2);
        Due.orderFrom(x, 1, "fee 9999;rest");
        x.run(2);
        Due.is("as far as CASH goes", x.paid(1, 0), 5000);
        Due.is("as month 2 began", x.paid(2, 0), 4999);
        Due.is("fees are no one's", x.count(11), 1);
    }

    private static void payOnce() {
        Due.sentence("Terms 4, 'pay X: what X is DUE and was not paid in this month'");
        LayerBook x = bulletBook(10000, 100, "keep 90;pay a;pay a;rest", 5000, 50);
        x.run(2);
        Due.is("as far as CASH goes", x.paid(1, 1), 10);
        Due.is("nothing is left of CASH", x.paid(1, 2), 0);
        Due.is("what was SHORT, too", x.paid(2, 1), 15 + 25);
        Due.is("it is paid", x.paid(2, 2), 0);
        LayerBook y = bulletBook(10000, 100, "pay a;pay b;pay a;pay b;rest", 5000, 50, 3000, 100);
        y.run(1);
        long[] want = {25, 30, 0, 0, 45};
        for (int i = 0; i < want.length; i++) {
            Due.is("step " + i, y.paid(1, i), want[i]);
        }
    }

    private static void ownIsBalance() {
        Due.sentence("Terms 4, 'own X: its BALANCE .. What own and part pay lessens its BALANCE'");
        int[][] cases = {{99, 99, 1}, {100, 100, 0}, {101, 100, 0}};
        for (int[] c : cases) {
            LayerBook x = bulletBook(10000, 100, "own a;own a;rest", c[0], 0);
            x.run(1);
            Due.is("BALANCE " + c[0], x.paid(1, 0), c[1]);
            Due.is("what is left of it", x.paperTold(0, 0), c[0] - c[1]);
            Due.is("again", x.paid(1, 1), 0);
            Due.is("rest", x.paid(1, 2), c[2]);
            Due.is("PRINCIPAL", x.paperTold(0, 4), c[1]);
            Due.is("no interest", x.paperTold(0, 3), 0);
        }
    }

    private static void partOfPrincipals() {
        Due.sentence("Terms 4, 'part X N: N hundredths of PRINCIPALS (at most its BALANCE)', with Terms, 'quotients are cut'");
        // Month 1 brings PRINCIPALS of 101.
        int[][] cases = {{0, 999, 0}, {1, 999, 1}, {99, 999, 99}, {100, 999, 101}, {50, 999, 50}, {33, 999, 33},
            {100, 100, 100},
            {100, 102, 101}, {9999, 999, 999}, {9999, 99, 99}};
        for (int[] c : cases) {
            LayerBook x = new LayerBook();
            x.loan(0, 1010, 0, 10);
            x.loan(3, 999999, 10, 60);
            x.paper(c[1], 0);
            Due.orderFrom(x, 1, "part a " + c[0] + ";rest");
            x.run(1);
            Due.is("PRINCIPALS", x.month(1, 1), 101);
            Due.is("part a " + c[0] + " of BALANCE " + c[1], x.paid(1, 0), c[2]);
            Due.is("BALANCE", x.paperTold(0, 0), c[1] - c[2]);
        }
        LayerBook x = bulletBook(10000, 100, "part a 100;rest", 500, 0);
        x.run(1);
        Due.is("of no PRINCIPALS", x.paid(1, 0), 0);
    }

    private static void keepAtLeast() {
        Due.sentence("Terms 4, 'keep N: N less RESERVE (0 at least), which comes to RESERVE'");
        int[][] cases = {{50, 0}, {49, 0}, {51, 1}, {0, 0}, {100, 50}, {101, 50}};
        for (int[] c : cases) {
            LayerBook x = bulletBook(10000, 100, "keep 50;keep " + c[0] + ";rest");
            x.run(1);
            Due.is("keep 50, keep " + c[0], x.paid(1, 1), c[1]);
            Due.is("RESERVE", x.count(8), 50 + c[1]);
            Due.is("RESERVE behind it", x.month(1, 9), 50 + c[1]);
        }
    }

    private static void reserveIsCashAgain() {
        Due.sentence("Terms 4, 'CASH of a month: .. and RESERVE (which is 0 then)'");
        LayerBook x = bulletBook(10000, 100, "keep 60 if not month=3;rest");
        x.run(2);
        Due.is("CASH with RESERVE", x.month(2, 5), 160);
        Due.is("kept from 0 on", x.paid(2, 0), 60);
        x.run(1);
        Due.is("CASH with RESERVE", x.month(3, 5), 160);
        Due.is("none is kept", x.month(3, 9), 0);
        Due.is("RESERVE", x.count(8), 0);
        x.run(1);
        Due.is("CASH without RESERVE", x.month(4, 5), 100);
    }

    private static void restTakesAll() {
        Due.sentence("Terms 4, 'rest: all'");
        LayerBook x = bulletBook(10000, 100, "fee 1;rest");
        x.run(2);
        Due.is("all that is left", x.paid(2, 1), 99);
        Due.is("all that rest took", x.count(11), 198);
    }

    private static void writtenDownEdge() {
        Due.sentence("Terms 4, 'if BALANCES of all PAPERS are more than POOL and RESERVE together, they are less by that'");
        int[][] cases = {{10049, 0}, {10050, 0}, {10051, 1}, {10150, 100}};
        for (int[] c : cases) {
            LayerBook x = bulletBook(10000, 100, "keep 50;rest", c[0], 0);
            x.run(1);
            Due.is("BALANCE " + c[0], x.paperTold(0, 5), c[1]);
            Due.is("BALANCE behind", x.paperTold(0, 0), c[0] - c[1]);
            Due.is("no PRINCIPAL", x.paperTold(0, 4), 0);
            x.run(1);
            Due.is("no more in month 2", x.paperTold(0, 5), c[1]);
        }
        LayerBook x = new LayerBook();
        x.paper(7, 0);
        x.run(1);
        Due.is("of no POOL", x.paperTold(0, 5), 7);
    }

    private static void writtenDownFromTheLast() {
        Due.sentence("Terms 4, 'from the last PAPER on, each 0 at least: WRITTEN DOWN'");
        // Of papers whose BALANCES these are, on a pool of 1000, so much is written down.
        int[][][] cases = {{{1000}, {0}}, {{1001}, {1}}, {{600, 400}, {0, 0}}, {{600, 401}, {0, 1}}, {{600, 400, 1}, {0, 0, 1}},
            {{600, 400, 300}, {0, 0, 300}}, {{600, 401, 300}, {0, 1, 300}}, {{1000, 500, 1}, {0, 500, 1}},
            {{1001, 500, 1}, {1, 500, 1}}, {{2000, 3, 4, 5, 6}, {1000, 3, 4, 5, 6}}, {{200, 200, 200, 200, 200},
            {0, 0, 0, 0, 0}},
            {{200, 200, 200, 200, 201}, {0, 0, 0, 0, 1}}, {{300, 300, 300, 300, 300}, {0, 0, 0, 200, 300}}};
        for (int[][] c : cases) {
            LayerBook y = new LayerBook();
            y.loan(3, 1000, 0, 60);
            for (int balance : c[0]) {
                y.paper(balance, 0);
            }
            y.run(1);
            for (int p = 0; p < c[0].length; p++) {
                Due.is("paper " + p + " of " + c[0][p], y.paperTold(p, 5), c[1][p]);
                Due.is("its BALANCE", y.paperTold(p, 0), c[0][p] - c[1][p]);
            }
        }
        LayerBook x = new LayerBook();
        for (int p = 0; p < 5; p++) {
            x.paper(9999999, 200);
        }
        x.run(1);
        for (int p = 0; p < 5; p++) {
            Due.is("all of paper " + p, x.paperTold(p, 5), 9999999);
        }
    }

    /** For each number, whether < = not-< not-= are so of a field in the book's month k. */
    private static void tests(String field, int k, int value, Maker maker) {
        for (int number = Math.max(0, value - 1); number <= Math.min(9999, value + 1); number++) {
            LayerBook x = maker.make("keep 1 if " + field + "<" + number + ";keep 1 if " + field + "=" + number + ";rest");
            boolean[] so = {value < number, value == number};
            Due.runTo(x, k);
            Due.is(field + " " + value + " < or = " + number, x.month(k, 9), so[0] || so[1] ? 1 : 0);
            Due.is(field + " " + value + " < " + number, x.paid(k, 0), so[0] ? 1 : 0);
            LayerBook y = maker.make("keep 1 if not " + field + "<" + number + ";rest");
            Due.runTo(y, k);
            Due.is(field + " " + value + " not < " + number, y.paid(k, 0), so[0] ? 0 : 1);
            LayerBook z = maker.make("keep 1 if not " + field + "=" + number + ";rest");
            Due.runTo(z, k);
            Due.is(field + " " + value + " not = " + number, z.paid(k, 0), so[1] ? 0 : 1);
        }
    }

    interface Maker {
        LayerBook make(String order);
    }

    private static void testsOfMonth() {
        Due.sentence("Terms 4, 'FIELDS: month: k', 'if FIELD < NUMBER, if FIELD = NUMBER, if not'");
        for (int k : new int[] {1, 2, 59, 60}) {
            tests("month", k, k, order -> bulletBook(10000, 100, order));
        }
    }

    private static void testsOfLate() {
        Due.sentence("Terms 4, 'late: LATE'");
        for (int late : new int[] {0, 1, 12}) {
            tests("late", 2, late, order -> {
                LayerBook x = new LayerBook();
                for (int n = 0; n < 12; n++) {
                    x.loan(3, 10000, n + 1, 60);
                }
                x.loan(3, 10000, 100, 60);
                x.tell(2, 1);
                Due.law(x, "fail 0;late 1000*(month=2 and rate<" + (late + 1) + ");early 0;");
                Due.orderFrom(x, 1, order);
                return x;
            });
        }
    }

    /** A loan of so much fails at once and is sold in month 4 with nothing back; another one pays 100 a month. */
    private static LayerBook lostBook(int lost, int bound, int cure, String order) {
        LayerBook x = new LayerBook();
        x.loan(3, lost, 0, 60);
        x.loan(3, 10000, 100, 60);
        x.tell(1, 0);
        x.trip(bound, cure);
        Due.law(x, "fail 1000*(rate=0);late 0;early 0;");
        Due.orderFrom(x, 1, order);
        return x;
    }

    private static void testsOfLost() {
        Due.sentence("Terms 4, 'lost: LOSS of all months till this one, too, times 1000 by the POOL as the first month began'");
        int[][] cases = {{1000, 90}, {1111, 99}, {1112, 100}, {10000, 500}, {90000, 900}};
        for (int[] c : cases) {
            tests("lost", 3, 0, order -> lostBook(c[0], 1000, 1, order));
            tests("lost", 4, c[1], order -> lostBook(c[0], 1000, 1, order));
            tests("lost", 9, c[1], order -> lostBook(c[0], 1000, 1, order));
        }
        tests("lost", 5, 1000, BoundsPapersTest::allLost);
        Due.sentence("Terms 4, 'by the POOL as the first month began' (not as any other month began)");
        // 20000 as month 1 began, 10000 as month 2 began.
        tests("lost", 4, 500, order -> {
            LayerBook x = new LayerBook();
            x.loan(3, 10000, 0, 60);
            x.loan(0, 10000, 100, 1);
            Due.law(x, "fail 1000*(rate=0);late 0;early 0;");
            x.tell(1, 0);
            Due.orderFrom(x, 1, "keep 9;rest");
            x.run(3);
            Due.orderFrom(x, 4, order);
            return x;
        });
    }

    /** All of the first pool is lost in month 5, but a RESERVE of 9 is there to be kept. */
    private static LayerBook allLost(String order) {
        LayerBook x = new LayerBook();
        x.loan(3, 10000, 100, 60);
        x.tell(1, 0);
        Due.law(x, "fail 1000*(month=2);late 0;early 0;");
        Due.orderFrom(x, 1, "keep 9;rest");
        x.run(4);
        Due.orderFrom(x, 5, order);
        return x;
    }

    private static void lostOfNoPool() {
        Due.sentence("Terms 4, '(0 if that is 0)' (POOL as the first month began)");
        LayerBook x = new LayerBook();
        x.loan(3, 10000, 0, 60);
        x.buy(0);
        Due.orderFrom(x, 1, "keep 7 if lost=0;rest");
        x.run(1);
        Due.is("lost is 0", x.paid(1, 0), 7);
        LayerBook y = new LayerBook();
        y.run(12);
        Due.is("of an empty book THE TRIP is off", y.count(10), 0);
    }

    private static void testsOfCover() {
        Due.sentence("Terms 4, 'cover: POOL in hundredths of BALANCE of PAPER a (100 times POOL by BALANCE ..)', with Terms, 'quotients "
            + "are cut'");
        int[][] cases = {{10000, 100}, {9999, 100}, {5000, 200}, {6666, 150}, {6667, 149}, {8000, 125}, {101, 9900}};
        for (int[] c : cases) {
            tests("cover", 1, c[1], order -> bulletBook(10000, 100, order, c[0], 0));
        }
        Due.sentence("Terms 4, 'POOL here is behind the month's payments'");
        tests("cover", 1, 50, order -> {
            LayerBook x = new LayerBook();
            x.loan(0, 10000, 0, 2);
            x.paper(9999, 0);
            Due.orderFrom(x, 1, order);
            return x;
        });
        Due.sentence("Terms 4, 'BALANCE as the STEP begins'");
        LayerBook x = bulletBook(10000, 100, "own a if cover=125;own a if cover<126;keep 1 if cover=126;rest", 8000, 0);
        x.run(2);
        Due.is("125 at first", x.paid(1, 0), 100);
        Due.is("126 then", x.paid(1, 1), 0);
        Due.is("126 as month 2 begins", x.paid(2, 0), 0);
        Due.is("126", x.paid(2, 2), 1);
    }

    private static void coverMost() {
        Due.sentence("Terms 4, 'cover: .. 9999 if that is 0, or more'");
        // 100 times POOL by 100 is POOL.
        for (int pool : new int[] {9998, 9999, 10000, 10001, 999999}) {
            tests("cover", 1, Math.min(9999, pool), order -> bulletBook(pool, 100, order, 100, 0));
        }
        tests("cover", 1, 9999, order -> bulletBook(10000, 100, order));
        LayerBook x = bulletBook(10000, 100, "own a;keep 1 if cover=9999;rest", 50, 0);
        x.run(1);
        Due.is("BALANCE is 0 as the STEP begins", x.paid(1, 1), 1);
        LayerBook y = bulletBook(10000, 100, "keep 1 if cover=0;keep 2 if cover=9999;rest", 5000, 0);
        y.buy(0);
        y.run(1);
        Due.is("a POOL of 0", y.paid(1, 0), 1);
        Due.is("BALANCE is written down to 1", y.paperTold(0, 0), 1);
        y.run(1);
        Due.is("a POOL of 0 by a BALANCE of 1", y.paid(2, 0), 1);
        LayerBook z = bulletBook(10000, 100, "keep 1 if not cover=9999;keep 2 if cover=9999;rest");
        z.buy(0);
        z.run(1);
        Due.is("no PAPER a, and a POOL of 0", z.paid(1, 0), 0);
        Due.is("9999", z.paid(1, 1), 2);
    }

    private static void testsOfTrip() {
        Due.sentence("Terms 4, 'trip: 1 if THE TRIP is on'");
        tests("trip", 3, 0, order -> lostBook(10000, 0, 1, order));
        tests("trip", 4, 1, order -> lostBook(10000, 0, 1, order));
        tests("trip", 5, 0, order -> lostBook(10000, 0, 1, order));
    }

    private static void tripBound() {
        Due.sentence("Terms 4, 'it goes on if there was LOSS in this month and lost is above the bound'");
        int[][] cases = {{10000, 499, 1}, {10000, 500, 0}, {10000, 501, 0}, {10000, 0, 1}, {1000, 90, 0}, {1000, 89, 1}};
        for (int[] c : cases) {
            LayerBook x = lostBook(c[0], c[1], 12, "rest");
            x.run(3);
            Due.is("off ahead of the LOSS", x.count(10), 0);
            x.run(1);
            Due.is("lost of " + c[0] + " bound " + c[1], x.count(10), c[2]);
            Due.is("THE TRIP in month 4", x.month(4, 10), c[2]);
            x.trip(0, 12);
            x.run(1);
            Due.is("no LOSS in month 5", x.month(5, 10), c[2]);
        }
        LayerBook x = lostBook(10000, 1000, 1, "rest");
        x.run(4);
        Due.is("500 is not above 1000", x.count(10), 0);
        Due.sentence("Terms 4, 'lost is above the bound', with a LOSS that is less than a thousandth");
        LayerBook y = new LayerBook();
        y.loan(3, 1000, 0, 60);
        y.loan(3, 999999, 1, 60);
        y.loan(3, 999999, 1, 60);
        y.tell(1, 0);
        y.trip(0, 1);
        Due.law(y, "fail 1000*(rate=0);late 0;early 0;");
        y.run(4);
        Due.is("LOSS", y.month(4, 7), 1000);
        Due.is("lost is cut to 0", y.count(10), 0);
    }

    private static void tripCure() {
        Due.sentence("Terms 4, 'if it is on, it goes off if QUIET is CURE at least', 'a CURE of 1 .. 12 months'");
        for (int cure = 1; cure <= 12; cure++) {
            LayerBook x = lostBook(10000, 0, cure, "rest");
            Due.runTo(x, 3 + cure);
            Due.is("CURE " + cure + ", on still", x.count(10), 1);
            x.run(1);
            Due.is("CURE " + cure + ", off", x.count(10), 0);
            for (int k = 1; k <= 4 + cure; k++) {
                Due.is("THE TRIP in month " + k, x.month(k, 10), k >= 4 && k < 4 + cure ? 1 : 0);
            }
        }
    }

    /** A HOLIDAY loan that is late till its balance grows by i in month 6, fails in month 7, and is lost in month 10. */
    private static LayerBook grownBook(int rate) {
        LayerBook x = new LayerBook();
        x.loan(4, 10000, rate, 60);
        x.tell(1, 0);
        Due.law(x, "fail 1000*(month=7);late 1000*(month<6);early 0;");
        return x;
    }

    private static void tripAtFirst() {
        Due.sentence("Terms 4, 'THE TRIP (a bound of lost .., a CURE ..; 1000, 1 at first) is off at first'");
        int[][] cases = {{0, 10000, 0}, {1, 10001, 0}, {9, 10009, 0}, {10, 10010, 1}, {200, 10200, 1}};
        for (int[] c : cases) {
            LayerBook x = grownBook(c[0]);
            x.run(9);
            Due.is("off", x.count(10), 0);
            x.run(1);
            Due.is("LOSS", x.month(10, 7), c[1]);
            Due.is("lost of " + c[1] + " of 10000", x.month(10, 10), c[2]);
            x.run(1);
            Due.is("CURE is 1", x.month(11, 10), 0);
        }
        LayerBook x = grownBook(200);
        x.trip(1000, 2);
        x.run(12);
        Due.is("with CURE 2", x.month(11, 10), 1);
        Due.is("with CURE 2", x.month(12, 10), 0);
        // LOSS of 102000 by a first POOL of 101000 in month 10, and LOSS in month 11, so that QUIET is 0 in both.
        LayerBook y = new LayerBook();
        y.loan(4, 100000, 200, 60);
        y.loan(4, 1000, 0, 60);
        y.tell(1, 0);
        Due.law(y, "fail 1000*(month=7 and rate=200 or month=8);late 1000*(month<6);early 0;");
        y.run(12);
        Due.holds("LOSS in months 10 and 11", y.month(10, 7) == 102000 && y.month(11, 7) > 0);
        for (int k = 9; k <= 12; k++) {
            Due.is("CURE is 1, THE TRIP in month " + k, y.month(k, 10), k == 10 || k == 11 ? 1 : 0);
        }
    }

    private static void tripOfOneCoin() {
        Due.sentence("Terms 4, 'if there was LOSS in this month', of LOSS 1");
        LayerBook x = new LayerBook();
        x.loan(0, 1000, 0, 10);
        x.tell(1, 99);
        x.trip(0, 3);
        Due.law(x, "fail 1000*(month=10);late 0;early 0;");
        x.run(9);
        Due.is("BALANCE that fails", x.loanTold(0, 1), 100);
        x.run(4);
        Due.is("LOSS", x.month(13, 7), 1);
        Due.is("it goes on", x.month(13, 10), 1);
        Due.sentence("Terms 4, 'QUIET is 0 if there was LOSS in this month', of LOSS 1");
        LayerBook y = new LayerBook();
        y.loan(0, 1000, 0, 10);
        y.loan(3, 5000, 1, 60);
        y.tell(1, 0);
        y.trip(0, 3);
        Due.law(y, "fail 1000*(rate=0 and month=10 or rate=1 and month=8);late 0;early 0;");
        y.run(12);
        Due.is("on in month 11", y.month(11, 10), 1);
        y.tell(1, 99);
        y.run(6);
        Due.is("LOSS of month 13", y.month(13, 7), 1);
        for (int k = 11; k <= 18; k++) {
            Due.is("THE TRIP in month " + k, y.month(k, 10), k < 16 ? 1 : 0);
        }
    }

    /** Loans of 10000 are sold with nothing back in months 4 and 6; a third one goes on. */
    private static LayerBook twiceLost(int bound, int cure) {
        LayerBook x = new LayerBook();
        for (int n = 0; n < 3; n++) {
            x.loan(3, 10000, n, 60);
        }
        x.tell(1, 0);
        x.trip(bound, cure);
        Due.law(x, "fail 1000*(rate=0 or rate=1 and month=3);late 0;early 0;");
        return x;
    }

    private static void tripQuiet() {
        Due.sentence("Terms 4, 'QUIET (0 at first) is 0 if there was LOSS in this month, else 1 more'");
        LayerBook x = twiceLost(0, 3);
        x.run(9);
        for (int k = 1; k <= 9; k++) {
            Due.is("CURE 3, month " + k, x.month(k, 10), k >= 4 && k <= 8 ? 1 : 0);
        }
        LayerBook y = twiceLost(0, 1);
        y.run(9);
        for (int k = 1; k <= 9; k++) {
            Due.is("CURE 1, month " + k, y.month(k, 10), k == 4 || k == 6 ? 1 : 0);
        }
        LayerBook z = twiceLost(400, 2);
        z.run(9);
        for (int k = 1; k <= 9; k++) {
            Due.is("bound 400, month " + k, z.month(k, 10), k == 6 || k == 7 ? 1 : 0);
        }
    }

    private static void tripOnInMonthOfLoss() {
        Due.sentence("Terms 4, 'Each month, ahead of all STEPS'");
        LayerBook x = lostBook(10000, 0, 1, "keep 5 if trip=1;keep 8 if lost=500;rest");
        x.run(5);
        Due.is("in month 4", x.paid(4, 0), 5);
        Due.is("lost in month 4", x.paid(4, 1), 3);
        Due.is("in month 5", x.paid(5, 0), 0);
    }

    private static void lifeOfOwnAndPart() {
        Due.sentence("Terms 5, 'LIFE of a PAPER: the sum of PRINCIPAL (by own, part) times month, by the sum of PRINCIPAL'");
        LayerBook x = new LayerBook();
        x.loan(0, 6000, 100, 6);
        x.paper(5000, 10);
        Due.orderFrom(x, 1, "pay a;part a 10 if month<3;own a if month=3;rest");
        x.run(3);
        long all = 100 + 100 + x.paid(3, 2);
        long weighted = 100 + 200 + 3 * x.paid(3, 2);
        Due.is("PRINCIPAL", x.paperTold(0, 4), all);
        Due.is("as a fraction", x.life(0, 0) * all, x.life(0, 1) * weighted);
        long a = x.life(0, 0);
        long b = x.life(0, 1);
        while (b != 0) {
            long left = a % b;
            a = b;
            b = left;
        }
        Due.is("in lowest terms", a, 1);
    }

    private static void lifeOfOneCoin() {
        Due.sentence("Terms 5, 'a fraction in lowest terms', of one coin of PRINCIPAL");
        for (int k : new int[] {1, 2, 60}) {
            LayerBook x = bulletBook(10000, 100, "own a if month=" + k + ";rest", 1, 0);
            Due.runTo(x, k);
            Due.is("PRINCIPAL", x.paperTold(0, 4), 1);
            Due.is("above", x.life(0, 0), k);
            Due.is("below", x.life(0, 1), 1);
        }
    }
}
