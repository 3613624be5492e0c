/** Promises 4 to 6, 8, 15, 17, 18, 21, 22: papers, the steps that pay them, the trip, amending and beside. */
public final class PapersTest {
    public static void main(String[] args) {
        paperRefused();
        feeAndRest();
        payAndShort();
        ownAndPart();
        reserve();
        writtenDown();
        writtenDownWithReserve();
        tests();
        cover();
        tripTurns();
        tripRefused();
        life();
        amendRefused();
        amendAgain();
        amendBack();
        amendKeepsCollected();
        amendTakesTripAsNow();
        paidRefused();
        beside();
        besideKeepsWhatWentBy();
        besideRefused();
        Due.end("PapersTest");
    }

    /** One BULLET loan of 10000 at 100, so that each month brings 100 till month 60. */
    private static LayerBook bulletBook(String order, int... papers) {
        LayerBook x = new LayerBook();
        x.loan(3, 10000, 100, 60);
        for (int i = 0; i < papers.length; i += 2) {
            x.paper(papers[i], papers[i + 1]);
        }
        Due.is("order", Due.order(x, order), 1);
        Due.is("amended", x.amend(1, 1), 0);
        return x;
    }

    private static void paperRefused() {
        LayerBook x = new LayerBook();
        int[][] bad = {{0, 0}, {10000000, 0}, {1, -1}, {1, 201}, {-5, 5}};
        for (int[] b : bad) {
            Due.is("bad paper", x.paper(b[0], b[1]), -2);
        }
        Due.is("least", x.paper(1, 0), 0);
        Due.is("largest", x.paper(9999999, 200), 1);
        Due.is("told", x.paperTold(1, 0), 9999999);
        Due.is("told", x.paperTold(1, 1), 200);
        for (int what = 2; what < 6; what++) {
            Due.is("told " + what, x.paperTold(1, what), 0);
        }
        Due.is("none such", x.paperTold(2, 0), -2);
        Due.is("none such", x.paperTold(-1, 0), -2);
        Due.is("what", x.paperTold(0, 6), -2);
        Due.is("what", x.paperTold(0, -1), -2);
        for (int p = 2; p < 5; p++) {
            Due.is("paper", x.paper(5, 5), p);
        }
        Due.is("full", x.paper(5, 5), -4);
        Due.is("bad ahead of full", x.paper(5, 500), -2);
        x.run(1);
        Due.is("STATE ahead of FULL", x.paper(5, 5), -3);
        Due.is("bad ahead of STATE", x.paper(0, 5), -2);
        Due.is("papers", x.count(1), 5);
    }

    private static void feeAndRest() {
        LayerBook x = new LayerBook();
        x.loan(0, 10001, 0, 2);
        Due.order(x, "fee 3;fee 9999;rest");
        x.amend(1, 1);
        x.run(1);
        Due.is("a fee is cut", x.paid(1, 0), 3);
        Due.is("as far as cash goes", x.paid(1, 1), 5001 - 3);
        Due.is("rest", x.paid(1, 2), 0);
        x.run(1);
        Due.is("of the pool as the month began", x.paid(2, 0), 1);
        Due.is("of the pool as the month began", x.paid(2, 1), 4999 - 0);
        LayerBook y = bulletBook("fee 10;rest");
        y.run(3);
        Due.is("fee", y.paid(3, 0), 10);
        Due.is("rest", y.paid(3, 1), 90);
        Due.is("all that rest took", y.count(11), 270);
    }

    private static void payAndShort() {
        LayerBook x = bulletBook("pay a;pay b;pay a;rest", 5000, 111, 5000, 200);
        x.run(1);
        Due.is("due is cut", x.paid(1, 0), 55);
        Due.is("what cash is left", x.paid(1, 1), 45);
        Due.is("paid already", x.paid(1, 2), 0);
        Due.is("short", x.paperTold(1, 2), 55);
        Due.is("none short", x.paperTold(0, 2), 0);
        x.run(1);
        Due.is("short of both months", x.paperTold(1, 2), 110);
        Due.is("interest", x.paperTold(1, 3), 90);
        Due.is("interest", x.paperTold(0, 3), 110);
        Due.is("no principal", x.paperTold(0, 4), 0);
        LayerBook y = bulletBook("pay b if not month<3;rest", 5000, 10, 5000, 50);
        y.run(2);
        Due.is("a step whose test isn't so", y.paid(2, 0), 0);
        Due.is("short", y.paperTold(1, 2), 50);
        y.run(1);
        Due.is("with what was short", y.paid(3, 0), 75);
        Due.is("none short", y.paperTold(1, 2), 0);
        Due.is("short", y.paperTold(0, 2), 15);
    }

    private static void ownAndPart() {
        LayerBook x = new LayerBook();
        x.loan(0, 10000, 0, 10);
        x.paper(1500, 0);
        x.paper(700, 0);
        x.paper(900, 0);
        Due.order(x, "part b 33;own a;part c 9999;own d;part e 50;pay d;rest");
        x.amend(1, 1);
        x.run(1);
        Due.is("hundredths of principals", x.paid(1, 0), 330);
        Due.is("own as far as cash goes", x.paid(1, 1), 670);
        Due.is("no cash", x.paid(1, 2), 0);
        Due.is("balance", x.paperTold(0, 0), 830);
        Due.is("balance", x.paperTold(1, 0), 370);
        x.run(1);
        Due.is("part", x.paid(2, 0), 330);
        Due.is("own", x.paid(2, 1), 670);
        x.run(1);
        Due.is("at most its balance", x.paid(3, 0), 40);
        Due.is("its balance", x.paid(3, 1), 160);
        Due.is("at most its balance", x.paid(3, 2), 800);
        x.run(1);
        Due.is("the last of c", x.paid(4, 2), 100);
        for (int i = 3; i < 6; i++) {
            Due.is("of a paper that isn't there", x.paid(4, i), 0);
        }
        Due.is("rest", x.paid(4, 6), 900);
        Due.is("principal", x.paperTold(2, 4), 900);
        Due.is("no interest", x.paperTold(2, 3), 0);
    }

    private static void reserve() {
        LayerBook x = bulletBook("keep 30;fee 1;keep 50;rest");
        x.run(1);
        Due.is("kept", x.paid(1, 0), 30);
        Due.is("less what is there", x.paid(1, 2), 20);
        Due.is("rest", x.paid(1, 3), 49);
        Due.is("reserve", x.count(8), 50);
        Due.is("reserve behind", x.month(1, 9), 50);
        x.run(1);
        Due.is("cash with the reserve", x.month(2, 5), 150);
        Due.is("kept anew", x.paid(2, 0), 30);
        Due.is("rest", x.paid(2, 3), 99);
        LayerBook y = bulletBook("keep 500;keep 200;rest");
        y.run(2);
        Due.is("as far as cash goes", y.paid(2, 0), 200);
        Due.is("enough is kept", y.paid(2, 1), 0);
        y.run(5);
        Due.is("0 at least", y.paid(7, 1), 0);
        Due.is("reserve", y.count(8), 500);
        Due.is("rest", y.count(11), 200);
    }

    private static LayerBook failingBook(int back, String order, int... papers) {
        LayerBook x = bulletBook(order, papers);
        x.tell(1, back);
        Due.law(x, "fail 1000;late 0;early 0;");
        return x;
    }

    private static void writtenDown() {
        LayerBook x = failingBook(40, "own a;rest", 3000, 0, 4000, 0, 3000, 0);
        x.run(3);
        Due.is("nothing yet", x.paperTold(2, 5), 0);
        x.run(1);
        Due.is("loss", x.month(4, 7), 6000);
        Due.is("own", x.paid(4, 0), 3000);
        Due.is("rest", x.paid(4, 1), 1000);
        Due.is("last", x.paperTold(2, 5), 3000);
        Due.is("then the one ahead", x.paperTold(1, 5), 4000);
        Due.is("none of a", x.paperTold(0, 5), 0);
        Due.is("balance", x.paperTold(1, 0), 0);
        LayerBook y = bulletBook("rest", 9000, 0, 800, 0, 700, 0);
        y.run(1);
        Due.is("from the last on", y.paperTold(2, 5), 500);
        Due.is("what is left", y.paperTold(2, 0), 200);
        Due.is("the others stay", y.paperTold(1, 5), 0);
        LayerBook z = bulletBook("rest", 4000, 0, 20000, 0, 700, 0);
        z.run(1);
        Due.is("0 at least", z.paperTold(2, 0), 0);
        Due.is("the rest of it", z.paperTold(1, 5), 14000);
        Due.is("no principal", z.paperTold(1, 4), 0);
    }

    private static void writtenDownWithReserve() {
        LayerBook x = bulletBook("keep 60;rest", 10100, 0);
        x.run(1);
        Due.is("pool and reserve together", x.paperTold(0, 5), 40);
        x.run(1);
        Due.is("no more", x.paperTold(0, 5), 40);
    }

    private static void tests() {
        LayerBook x = new LayerBook();
        x.loan(3, 10000, 100, 60);
        x.loan(3, 10000, 100, 60);
        Due.law(x, "fail 0;late 1000*(month=2);early 0;");
        Due.order(x, "fee 1 if month<2;fee 1 if month=2;fee 1 if not month<2;fee 1 if not month=2;"
            + "fee 1 if late=2;fee 1 if trip=0;rest");
        x.amend(1, 1);
        x.run(3);
        long[][] want = {{2, 0, 0, 2, 0, 2}, {0, 0, 0, 0, 0, 0}, {0, 0, 2, 2, 0, 2}};
        for (int k = 1; k <= 3; k++) {
            for (int i = 0; i < 6; i++) {
                Due.is("month " + k + " step " + i, x.paid(k, i), want[k - 1][i]);
            }
        }
        LayerBook all = bulletBook("keep 50 if month<5;keep 7 if lost=1000;rest");
        all.tell(1, 0);
        Due.law(all, "fail 1000*(month=2);late 0;early 0;");
        all.run(5);
        Due.is("all is lost", all.month(5, 7), 10000);
        Due.is("a thousand of a thousand", all.paid(5, 1), 7);
        LayerBook y = failingBook(50, "keep 1 if lost=500;keep 3 if not lost<500;keep 7 if lost<500;rest");
        y.run(5);
        Due.is("ahead of the loss", y.paid(3, 0), 0);
        Due.is("lost of a thousand", y.paid(4, 0), 1);
        Due.is("not below", y.paid(4, 1), 2);
        Due.is("below no more", y.paid(4, 2), 0);
    }

    private static void cover() {
        LayerBook x = bulletBook("own a if cover=125;own a if cover=126;rest", 8000, 0);
        x.run(1);
        Due.is("as the step begins", x.paid(1, 0), 100);
        Due.is("of the balance then", x.paid(1, 1), 100 - 100);
        LayerBook y = bulletBook("own a;own b if cover=9999;rest", 50, 0, 1000, 0);
        y.run(1);
        Due.is("a balance of 0", y.paid(1, 1), 50);
        LayerBook z = bulletBook("keep 5 if cover=9999;rest", 1, 0);
        z.run(1);
        Due.is("at most 9999", z.paid(1, 0), 5);
        LayerBook none = bulletBook("keep 5 if cover=9999;rest");
        none.run(1);
        Due.is("no paper a", none.paid(1, 0), 5);
        LayerBook w = bulletBook("part a 1;fee 20;own a if cover<126;rest", 8000, 0);
        w.run(1);
        Due.is("cut", w.paid(1, 2), 80);
    }

    private static void tripTurns() {
        LayerBook x = failingBook(50, "keep 1 if trip=1;rest");
        Due.is("trip", x.trip(499, 3), 1);
        x.run(3);
        Due.is("off", x.count(10), 0);
        x.run(1);
        Due.is("on", x.count(10), 1);
        Due.is("ahead of all steps", x.paid(4, 0), 1);
        x.run(2);
        Due.is("still on", x.month(6, 10), 1);
        x.run(1);
        Due.is("cured", x.month(7, 10), 0);
        Due.is("it was on", x.month(4, 10), 1);
        Due.is("off", x.count(10), 0);
        LayerBook y = failingBook(50, "rest");
        y.trip(500, 1);
        y.run(4);
        Due.is("not above the bound", y.count(10), 0);
        LayerBook z = failingBook(100, "rest");
        z.trip(0, 1);
        z.run(4);
        Due.is("no loss", z.count(10), 0);
    }

    private static void tripRefused() {
        LayerBook x = new LayerBook();
        int[][] bad = {{-1, 1}, {1001, 1}, {0, 0}, {0, 13}};
        for (int[] b : bad) {
            Due.is("bad trip", x.trip(b[0], b[1]), -2);
        }
        Due.is("edges", x.trip(0, 12), 1);
        Due.is("edges", x.trip(1000, 1), 1);
    }

    private static void life() {
        LayerBook x = bulletBook("pay a;own a if month<4;part b 50;rest", 5000, 0, 700, 0);
        Due.is("none above", x.life(0, 0), 0);
        Due.is("none below", x.life(0, 1), 1);
        x.run(1);
        Due.is("a month", x.life(0, 0), 1);
        x.run(2);
        Due.is("above", x.life(0, 0), 2);
        Due.is("below", x.life(0, 1), 1);
        Due.is("none of b", x.life(1, 1), 1);
        Due.is("no paper", x.life(2, 0), LayerBook.NO);
        Due.is("no paper", x.life(-1, 0), LayerBook.NO);
        Due.is("what 2", x.life(0, 2), LayerBook.NO);
        Due.is("what -1", x.life(0, -1), LayerBook.NO);
        LayerBook y = new LayerBook();
        y.loan(0, 1000, 0, 3);
        y.paper(1000, 0);
        Due.order(y, "own a;rest");
        y.amend(1, 1);
        y.run(3);
        Due.is("334 + 666 + 999", y.life(0, 0), 1999);
        Due.is("in lowest terms", y.life(0, 1), 1000);
        LayerBook z = new LayerBook();
        z.loan(0, 1000, 0, 2);
        z.paper(1000, 0);
        Due.order(z, "part a 100;rest");
        z.amend(1, 1);
        z.run(2);
        Due.is("by part", z.life(0, 0), 3);
        Due.is("by part", z.life(0, 1), 2);
    }

    private static void amendRefused() {
        LayerBook x = bulletBook("keep 10;rest");
        Due.is("month 0", x.amend(0, 1), -2);
        Due.is("month 2", x.amend(2, 1), -2);
        Due.is("order 2", x.amend(1, 2), -2);
        Due.is("order -1", x.amend(1, -1), -2);
        x.run(2);
        Due.is("month 3", x.amend(3, 0), 2);
        Due.is("month 4", x.amend(4, 0), -2);
        x.run(1);
        Due.is("from month 3 on", x.month(3, 11), 0);
        Due.is("till then", x.month(2, 11), 1);
        for (int i = 0; i < 4; i++) {
            x.run(12);
        }
        x.run(9);
        Due.is("behind the last", x.amend(61, 0), 60);
        Due.is("beyond", x.amend(62, 0), -2);
    }

    private static void amendAgain() {
        LayerBook x = new LayerBook();
        x.loan(0, 1000, 100, 10);
        x.paper(1000, 100);
        Due.order(x, "pay a;own a;keep 500;rest");
        Due.order(x, "keep 50;own a if month=4;rest");
        x.run(4);
        Due.is("with rest", x.count(11), 400 + 10 + 9 + 8 + 7);
        Due.is("short", x.paperTold(0, 2), 34);
        Due.is("amended", x.amend(2, 1), 4);
        Due.is("month 1 as it was", x.paid(1, 0), 110);
        Due.is("month 2", x.paid(2, 0), 10 + 9);
        Due.is("own", x.paid(2, 1), 109 - 19);
        Due.is("order of month 2", x.month(2, 11), 1);
        Due.is("principal", x.paperTold(0, 4), 90 + 100 + 100);
        Due.is("interest", x.paperTold(0, 3), 19 + 8 + 7);
        Due.is("amended again", x.amend(1, 2), 4);
        Due.is("cash with reserve", x.month(4, 5), 107 + 50);
        Due.is("kept", x.paid(4, 0), 50);
        Due.is("own in month 4", x.paid(4, 1), 107);
        Due.is("reserve", x.count(8), 50);
        Due.is("rest", x.count(11), 60 + 109 + 108);
        Due.is("life", x.life(0, 0), 4);
        Due.is("own took nothing in month 2", x.paid(2, 1), 0);
        Due.is("amended back", x.amend(1, 0), 4);
        Due.is("with rest", x.count(11), 434);
        Due.is("none such", x.paid(4, 1), -1);
        Due.is("reserve", x.count(8), 0);
        Due.is("no principal", x.life(0, 1), 1);
    }

    // Amended to another order and back again, all is as it was. Each book is asked once, so that it gets 512 calls at most.
    private static void amendBack() {
        String before = told(lossyBookAt(12)).toString();
        LayerBook other = lossyBookAt(12);
        Due.is("amended", other.amend(1, 0), 12);
        Due.holds("another course", !told(other).toString().equals(before));
        LayerBook x = lossyBookAt(12);
        Due.is("amended", x.amend(1, 0), 12);
        Due.is("back", x.amend(1, 1), 12);
        Due.same("as it was", told(x).toString(), before);
        LayerBook y = lossyBookAt(12);
        y.amend(1, 0);
        y.amend(1, 1);
        y.run(3);
        LayerBook z = lossyBook();
        for (int i = 0; i < 15; i++) {
            z.run(1);
        }
        Due.same("and goes on so", told(y).toString(), told(z).toString());
    }

    private static LayerBook lossyBookAt(int month) {
        LayerBook x = lossyBook();
        Due.runTo(x, month);
        return x;
    }

    private static StringBuilder told(LayerBook x) {
        StringBuilder all = new StringBuilder();
        for (int what = 0; what < 12; what++) {
            all.append(x.count(what)).append(' ');
        }
        for (int p = 0; p < 2; p++) {
            for (int what = 0; what < 6; what++) {
                all.append(x.paperTold(p, what)).append(' ');
            }
            all.append(x.life(p, 0)).append('/').append(x.life(p, 1)).append(' ');
        }
        for (int k = 1; k <= x.count(5); k++) {
            for (int what = 0; what < 12; what++) {
                all.append(x.month(k, what)).append(' ');
            }
            for (int i = 0; i < 8; i++) {
                all.append(x.paid(k, i)).append(' ');
            }
        }
        return all;
    }

    private static void amendKeepsCollected() {
        LayerBook x = new LayerBook();
        x.loan(3, 10000, 100, 60);
        x.loan(3, 10000, 100, 60);
        Due.law(x, "fail 0;late 1000*(month=2);early 0;");
        x.tell(2, 1);
        x.run(2);
        x.buy(0);
        x.run(1);
        int[] before = new int[11];
        for (int what = 0; what < 11; what++) {
            before[what] = x.month(2, what);
        }
        x.force(0);
        x.tell(0, 500);
        Due.is("amended", x.amend(1, 0), 3);
        for (int what = 0; what < 11; what++) {
            Due.is("month 2 what " + what, x.month(2, what), before[what]);
        }
        Due.is("the loans stay", x.loanTold(0, 5), 6);
        Due.is("pool ahead of the buying", x.month(2, 6), 20000);
        Due.is("late then", x.month(2, 8), 2);
    }

    private static void amendTakesTripAsNow() {
        LayerBook x = failingBook(50, "keep 1 if trip=1;rest");
        x.run(5);
        Due.is("off", x.month(4, 10), 0);
        x.trip(400, 12);
        Due.is("as it was till amended", x.month(4, 10), 0);
        x.run(1);
        Due.is("no loss in this month", x.month(6, 10), 0);
        x.amend(7, 1);
        Due.is("as now", x.month(4, 10), 1);
        Due.is("kept", x.paid(4, 0), 1);
        Due.is("on", x.count(10), 1);
    }

    private static void paidRefused() {
        LayerBook x = bulletBook("fee 1;rest");
        Due.is("no month", x.paid(1, 0), -2);
        x.run(1);
        Due.is("month 0", x.paid(0, 0), -2);
        Due.is("month 2", x.paid(2, 0), -2);
        Due.is("a bad month, no step", x.paid(2, -1), -2);
        Due.is("step -1", x.paid(1, -1), -1);
        Due.is("step 2", x.paid(1, 2), -1);
        Due.is("step 10", x.paid(1, 10), -1);
        Due.is("step 1", x.paid(1, 1), 99);
    }

    private static void beside() {
        LayerBook x = new LayerBook();
        x.loan(0, 5000, 100, 12);
        x.loan(2, 8000, 100, 20);
        x.paper(9000, 50);
        x.paper(3000, 80);
        x.tell(2, 1);
        Due.law(x, "fail 60;late 300;early 40;");
        Due.order(x, "pay a;keep 100;own a;pay b;own b if not trip=1;rest");
        x.amend(1, 1);
        besideAsItComes(x);
        besideAsItComes(lossyBook());
        LayerBook same = lossyBook();
        same.tell(0, 4321);
        Due.runTo(same, 20);
        int trips = tripMonths(same);
        Due.holds("it was on in some month, and off in some", trips > 0 && trips < 20);
    }

    private static void besideKeepsWhatWentBy() {
        LayerBook x = failingBook(50, "keep 40 if not lost<500;rest");
        x.run(2);
        Due.is("not sold yet", x.beside(1, 5, 0), 0);
        Due.is("sold", x.beside(2, 5, 0), 5000);
        LayerBook y = failingBook(50, "pay a if not lost<500;rest", 4000, 50);
        y.run(3);
        Due.is("lost of the first pool", y.beside(1, 5, 3), 4 * 20);
        y.run(1);
        LayerBook z = failingBook(50, "keep 4000 if month<5;pay a if lost=500;rest", 3000, 50);
        z.run(4);
        Due.is("a first beside in month 4", z.beside(1, 5, 3), 15);
    }

    /** Twelve loans of which some fail now and then, with an order whose steps hang on that. */
    private static LayerBook lossyBook() {
        LayerBook x = new LayerBook();
        for (int n = 0; n < 12; n++) {
            x.loan(n % 6, 9000 + 1000 * n, 150, 24 + n);
        }
        x.paper(90000, 50);
        x.paper(60000, 120);
        x.tell(1, 35);
        x.tell(2, 1);
        x.trip(30, 3);
        Due.law(x, "fail 25;late 200;early 10;");
        Due.order(x, "pay a;pay b if trip=0;keep 3000 if lost<150;part b 20 if trip=0;own a;fee 10 if cover<120;own b;rest");
        x.amend(1, 1);
        return x;
    }

    private static int tripMonths(LayerBook x) {
        int sum = 0;
        for (int k = 1; k <= x.count(5); k++) {
            sum += x.month(k, 10);
        }
        return sum;
    }

    private static void besideAsItComes(LayerBook x) {
        for (int round = 0; round < 4; round++) {
            long[] told = new long[5];
            for (int what = 0; what < 5; what++) {
                told[what] = x.beside(5, 4321, what);
                Due.is("the same again", x.beside(5, 4321, what), told[what]);
            }
            int[] before = state(x);
            x.beside(12, 99999, 0);
            int[] behind = state(x);
            for (int i = 0; i < before.length; i++) {
                Due.is("nothing changes", behind[i], before[i]);
            }
            int gotA = x.paperTold(0, 3) + x.paperTold(0, 4);
            int gotB = x.paperTold(1, 3) + x.paperTold(1, 4);
            int month = x.count(5);
            x.tell(0, 4321);
            x.run(5);
            long[] sums = new long[3];
            for (int k = month + 1; k <= month + 5; k++) {
                sums[0] += x.month(k, 7);
                sums[1] += x.month(k, 1);
                sums[2] += x.month(k, 0);
            }
            for (int what = 0; what < 3; what++) {
                Due.is("as it comes, what " + what, told[what], sums[what]);
            }
            Due.is("paper a", told[3], x.paperTold(0, 3) + x.paperTold(0, 4) - gotA);
            Due.is("paper b", told[4], x.paperTold(1, 3) + x.paperTold(1, 4) - gotB);
        }
    }

    private static int[] state(LayerBook x) {
        int[] all = new int[12 + 14 + 12];
        int at = 0;
        for (int what = 0; what < 12; what++) {
            all[at++] = x.count(what);
        }
        for (int n = 0; n < 14; n++) {
            all[at++] = x.loanTold(n / 7, n % 7);
        }
        for (int n = 0; n < 12; n++) {
            all[at++] = x.paperTold(n / 6, n % 6);
        }
        return all;
    }

    private static void besideRefused() {
        LayerBook x = bulletBook("rest", 500, 10);
        int[][] bad = {{0, 0, 0}, {13, 0, 0}, {1, -1, 0}, {1, 100000, 0}, {1, 0, -1}, {1, 0, 4}};
        for (int[] b : bad) {
            Due.is("bad beside", x.beside(b[0], b[1], b[2]), LayerBook.NO);
        }
        Due.is("interests", x.beside(12, 99999, 2), 1200);
        for (int i = 0; i < 4; i++) {
            x.run(12);
        }
        x.run(11);
        Due.is("beyond month 60", x.beside(2, 0, 2), LayerBook.NO);
        Due.is("to month 60", x.beside(1, 0, 1), 10000);
        x.run(1);
        Due.is("beyond month 60", x.beside(1, 0, 2), LayerBook.NO);
    }
}
