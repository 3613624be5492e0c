/** The bounds of promises 13 to 15, and of the Terms they lean on: the orders that are read from the tape, and amending. */
public final class BoundsOrdersTest {
    private static final int LEAST = Integer.MIN_VALUE, MOST = Integer.MAX_VALUE;
    private static final String NINE = "fee 1;fee 2;fee 3;fee 4;fee 5;fee 6;fee 7;fee 8;fee 9;";

    public static void main(String[] args) {
        orderNumber();
        orderEmptiesTape();
        orderFull();
        stepsTen();
        lastIsRest();
        restHasNoIf();
        faultEndsTooEarly();
        faultPapers();
        faultNumbers();
        faultTests();
        faultWordsAndBytes();
        orderOf160();
        stepSorts();
        stepTests();
        stepHowMany();
        stepBad();
        amendMonths();
        amendBad();
        amendFirstNamed();
        amendFromAMonthOn();
        amendDoneAgain();
        Due.end("BoundsOrdersTest");
    }

    private static void orderNumber() {
        Due.sentence("Promise 13, 'THE TAPE .. is an ORDER: its number', with Terms 1, 'ORDERS (6, ORDER 0 with them) are numbered "
            + "from 0 as they come'");
        LayerBook x = new LayerBook();
        for (int o = 1; o < 6; o++) {
            Due.is("a fault between", Due.order(x, "keep " + o), -106);
            Due.is("order " + o, Due.order(x, "keep " + o + ";rest"), o);
            Due.is("orders", x.count(3), o + 1);
        }
        for (int o = 1; o < 6; o++) {
            Due.is("order " + o, x.step(o, 0, 2), o);
        }
        x.run(1);
        Due.is("none is THE ORDER by that", x.month(1, 11), 0);
    }

    private static void orderEmptiesTape() {
        Due.sentence("Promise 13, 'THE TAPE, which is empty then (by a FAULT, too)'");
        LayerBook x = new LayerBook();
        Due.is("an order", Due.order(x, "rest"), 1);
        Due.is("tape", x.count(4), 0);
        Due.is("of an empty tape", x.order(), -100);
        Due.is("a fault", Due.order(x, "rest;"), -104);
        Due.is("tape", x.count(4), 0);
        Due.is("of an empty tape", x.order(), -100);
        Due.is("an order", Due.order(x, "rest"), 2);
    }

    private static LayerBook ordersFull(String tape) {
        LayerBook x = new LayerBook();
        for (int o = 1; o < 6; o++) {
            Due.is("order " + o, Due.order(x, "keep " + o + ";rest"), o);
        }
        Due.feed(x, tape);
        return x;
    }

    private static void orderFull() {
        Due.sentence("Promise 13, 'FULL: no ORDER more has room (THE TAPE stays)'");
        Twins.refuse("an order", () -> ordersFull("fee 1;rest"), LayerBook.FULL, LayerBook::order);
        Twins.refuse("a fault", () -> ordersFull("fee"), LayerBook.FULL, LayerBook::order);
        Twins.refuse("an empty tape", () -> ordersFull(""), LayerBook.FULL, LayerBook::order);
        LayerBook x = ordersFull("fail 1;late 2;early 3;");
        Due.is("full", x.order(), LayerBook.FULL);
        Due.is("the tape stays", x.count(4), 22);
        Due.is("a text has room", x.text(), 1);
        Due.is("the last order", x.amend(1, 5), 0);
        Due.is("no order behind it", x.amend(1, 6), LayerBook.BAD);
    }

    /** Orders, each with the place of its fault, or NONE. */
    private static void faults(Object[][] cases) {
        for (Object[] c : cases) {
            LayerBook x = new LayerBook();
            int place = (Integer) c[1];
            Due.is((String) c[0], Due.order(x, (String) c[0]), place == LayerBook.NONE ? 1 : -100 - place);
            Due.is("orders", x.count(3), place == LayerBook.NONE ? 2 : 1);
        }
    }

    private static void stepsTen() {
        Due.sentence("Terms 4, 'STEP ; STEP ; .. : 10 STEPS at most', 'an eleventh STEP, and a tenth that isn't rest, can't begin'");
        int size = NINE.length();
        faults(new Object[][] {{"rest", -1}, {NINE + "rest", -1}, {NINE + "pay a;rest", size}, {NINE + "fee", size},
            {NINE + "x", size},
            {NINE + ";", size}, {NINE, size}, {NINE + " ", size + 1}, {NINE + " pay a", size + 1}, {NINE + "fee 10;rest", size},
            {NINE + "rest;rest", size + 4}, {NINE + "rest;pay a", size + 4}, {NINE + "rest if trip=0", size + 5}});
        LayerBook x = new LayerBook();
        Due.order(x, NINE + "rest");
        Due.is("steps", x.step(1, -1, 0), 10);
        Due.is("the tenth", x.step(1, 9, 0), 5);
        Due.is("the ninth", x.step(1, 8, 2), 9);
        Due.is("no eleventh", x.step(1, 10, 0), LayerBook.BAD);
    }

    private static void lastIsRest() {
        Due.sentence("Terms 4, 'the last one is rest .. , no other one is'");
        faults(new Object[][] {{"pay a", 5}, {"pay a;", 6}, {"pay a;pay b", 11}, {"rest;", 4}, {"rest;rest", 4},
            {"rest;pay a", 4},
            {"rest rest", 5}, {"pay a;rest;pay b;rest", 10}, {"pay a;rest", -1}, {";rest", 0}, {"pay a;;rest", 6},
            {"pay a rest", 6}});
    }

    private static void restHasNoIf() {
        Due.sentence("Terms 4, 'rest (with no if)', 'behind each but that may stand: if'");
        faults(new Object[][] {{"rest if month<1", 5}, {"pay a;rest if not trip=0", 11}, {"fee 1 if trip=0;rest", -1},
            {"pay a if trip=0;rest", -1}, {"own a if trip=0;rest", -1}, {"part a 1 if trip=0;rest", -1},
            {"keep 1 if trip=0;rest", -1}});
    }

    private static void faultEndsTooEarly() {
        Due.sentence("Terms 4, 'FAULT: as of a TEXT' (the text's size, if it ends too early)");
        faults(new Object[][] {{"", 0}, {" ", 1}, {"fee", 3}, {"fee ", 4}, {"fee 1", 5}, {"fee 1;", 6}, {"pay", 3},
            {"pay a", 5},
            {"own", 3}, {"own a ", 6}, {"part", 4}, {"part a", 6}, {"part a 1", 8}, {"keep", 4}, {"keep 1", 6},
            {"keep 1 if", 9},
            {"keep 1 if not", 13}, {"keep 1 if month", 15}, {"keep 1 if month<", 16}, {"keep 1 if month<1", 17}});
        Due.is("160 blanks", Due.order(new LayerBook(), " ".repeat(160)), -260);
    }

    private static void faultPapers() {
        Due.sentence("Terms 4, 'PAPERS a b c d e (also if there is none such)'");
        for (char p = 'a'; p <= 'e'; p++) {
            LayerBook x = new LayerBook();
            Due.is("papers " + p, Due.order(x, "pay " + p + ";own " + p + ";part " + p + " 5;rest"), 1);
            for (int i = 0; i < 3; i++) {
                Due.is("PAPER of step " + i, x.step(1, i, 1), p - 'a');
            }
            x.loan(0, 1000, 0, 1);
            x.amend(1, 1);
            x.run(1);
            for (int i = 0; i < 3; i++) {
                Due.is("of a paper that isn't there nothing", x.paid(1, i), 0);
            }
            Due.is("rest", x.paid(1, 3), 1000);
        }
        faults(new Object[][] {{"pay f;rest", 4}, {"own z;rest", 4}, {"part f 1;rest", 5}, {"pay aa;rest", 4},
            {"pay 0;rest", 4},
            {"pay A;rest", 4}, {"pay fee;rest", 4}, {"paya;rest", 0}, {"pay a b;rest", 6}});
    }

    private static void faultNumbers() {
        Due.sentence("Terms 4, 'fee NUMBER, .. part PAPER NUMBER, keep NUMBER', with Terms 3, 'a NUMBER that is too long'");
        faults(new Object[][] {{"fee 9999;rest", -1}, {"fee 0;rest", -1}, {"fee0;rest", -1}, {"fee 10000;rest", 4},
            {"fee 00000;rest", 4}, {"part a 9999;rest", -1}, {"part a 10000;rest", 7}, {"part a9;rest", -1},
            {"keep 9999;rest", -1},
            {"keep 10000;rest", 5}, {"fee -1;rest", 4}, {"keep (1);rest", 5}, {"fee a;rest", 4}, {"part 1 a;rest", 5},
            {"pay a 1;rest", 6}, {"own a 1;rest", 6}, {"fee 1 2;rest", 6}, {"keep month;rest", 5},
            {"fee 1 if month<10000;rest", 15},
            {"fee 1 if month<9999;rest", -1}, {"fee 1 if month=0000;rest", -1}, {"fee 1 if month<-1;rest", 15}});
    }

    private static void faultTests() {
        Due.sentence("Terms 4, 'if FIELD < NUMBER, if FIELD = NUMBER, if not and so on'; 'FIELDS month late lost cover trip'");
        for (String field : new String[] {"month", "late", "lost", "cover", "trip"}) {
            faults(new Object[][] {{"fee 1 if " + field + "<1;rest", -1}, {"fee 1 if not " + field + "=1;rest", -1}});
        }
        faults(new Object[][] {{"fee 1 if rate<1;rest", 9}, {"fee 1 if owed<1;rest", 9}, {"fee 1 if months<1;rest", 9},
            {"fee 1 if a<1;rest", 9}, {"fee 1 if <1;rest", 9}, {"fee 1 if =1;rest", 9}, {"fee 1 if not <1;rest", 13},
            {"fee 1 if 1;rest", 9}, {"fee 1 if 1<month;rest", 9}, {"fee 1 if (month<1);rest", 9},
            {"fee 1 if not not month<1;rest", 13},
            {"fee 1 not month<1;rest", 6}, {"fee 1 if month+1;rest", 14}, {"fee 1 if month not <1;rest", 15},
            {"fee 1 if month<late;rest", 15}, {"fee 1 if month<1<2;rest", 16}, {"fee 1 if month<1 and late<1;rest", 17},
            {"fee 1 if month<1 or late<1;rest", 17}, {"fee 1 if month<1 if late<1;rest", 17}, {"fee 1 if month 1;rest", 15},
            {"fee 1 ifmonth<1;rest", 6}, {"fee 1if month<1;rest", -1}, {"fee 1 if fail<1;rest", 9},
            {"fee 1 if not 1=month;rest", 13}});
    }

    private static void faultWordsAndBytes() {
        Due.sentence("Terms 4, 'AN ORDER is read from THE TAPE, with TOKENS as of a TEXT'");
        for (int b : new int[] {0, 9, 11, 31, 33, 44, 47, 58, 65, 90, 96, 123, 127, 128, 255}) {
            faults(new Object[][] {{(char) b + "rest", 0}, {"rest" + (char) b, 4}, {"fee " + (char) b + ";rest", 4}});
        }
        faults(new Object[][] {{"\n rest \n ", -1}, {"fee\n1\n;\nrest", -1}, {"res", 0}, {"rests", 0}, {"fees 1;rest", 0},
            {"take a;rest", 0},
            {"fail 0;rest", 0}, {"(rest)", 0}, {"1;rest", 0}, {"pay a,rest", 5}, {"pay a:rest", 5}, {"restrest", 0}});
    }

    private static void orderOf160() {
        Due.sentence("Terms 4, 'AN ORDER is read from THE TAPE' (160 bytes at most)");
        String order = NINE + "rest";
        LayerBook x = new LayerBook();
        Due.is("an order till byte 160", Due.order(x, " ".repeat(160 - order.length()) + order), 1);
        Due.is("blanks till byte 160", Due.order(x, order + "\n".repeat(160 - order.length())), 2);
        Due.is("a fault at the last byte", Due.order(x, order + " ".repeat(159 - order.length()) + ";"), -259);
        Due.is("steps", x.step(1, -1, 0), 10);
    }

    private static void stepIs(LayerBook x, int order, int i, int... want) {
        for (int what = 0; what < 6; what++) {
            Due.is("step(" + order + ", " + i + ", " + what + ")", x.step(order, i, what), want[what]);
        }
    }

    private static void stepSorts() {
        Due.sentence("Promise 14, '0 its sort (0 fee, 1 pay, 2 own, 3 part, 4 keep, 5 rest), 1 PAPER (NONE), 2 NUMBER (NONE)'");
        LayerBook x = new LayerBook();
        Due.is("order", Due.order(x, "fee 0;pay a;own e;part c 9999;keep 7;rest"), 1);
        stepIs(x, 1, 0, 0, -1, 0, 0, -1, -1);
        stepIs(x, 1, 1, 1, 0, -1, 0, -1, -1);
        stepIs(x, 1, 2, 2, 4, -1, 0, -1, -1);
        stepIs(x, 1, 3, 3, 2, 9999, 0, -1, -1);
        stepIs(x, 1, 4, 4, -1, 7, 0, -1, -1);
        stepIs(x, 1, 5, 5, -1, -1, 0, -1, -1);
    }

    private static void stepTests() {
        Due.sentence("Promise 14, '3 how it is tested (0 not, 1 <, 2 =, 3 not <, 4 not =), 4 FIELD (0 .. 4; NONE), 5 the NUMBER of "
            + "that (NONE)'");
        LayerBook x = new LayerBook();
        Due.is("order", Due.order(x,
            "fee 1 if month<0;fee 1 if late=9999;fee 1 if not lost<3;fee 1 if not cover=4;own b if trip<5;rest"), 1);
        stepIs(x, 1, 0, 0, -1, 1, 1, 0, 0);
        stepIs(x, 1, 1, 0, -1, 1, 2, 1, 9999);
        stepIs(x, 1, 2, 0, -1, 1, 3, 2, 3);
        stepIs(x, 1, 3, 0, -1, 1, 4, 3, 4);
        stepIs(x, 1, 4, 2, 1, -1, 1, 4, 5);
    }

    private static void stepHowMany() {
        Due.sentence("Promise 14, 'i = -1: how many STEPS'");
        for (int what = 0; what < 6; what++) {
            int told = what;
            Twins.answer("order 0, what " + told, Twins::fresh, 1, x -> x.step(0, -1, told));
            Twins.answer("order 1, what " + told, Twins::fresh, 5, x -> x.step(1, -1, told));
        }
    }

    private static void stepBad() {
        Due.sentence("Promise 14, 'BAD'");
        int[][] bad = {{-1, 0, 0}, {3, 0, 0}, {6, 0, 0}, {LEAST, 0, 0}, {MOST, 0, 0}, {0, 1, 0}, {0, -2, 0}, {1, 5, 0},
            {1, 10, 0},
            {1, LEAST, 0}, {1, MOST, 0}, {0, 0, -1}, {0, 0, 6}, {0, 0, LEAST}, {0, 0, MOST}, {0, -1, -1}, {0, -1, 6},
            {3, -1, 0},
            {-1, -1, 0}};
        for (int[] b : bad) {
            Twins.refuse("step(" + b[0] + ", " + b[1] + ", " + b[2] + ")", Twins::fresh, LayerBook.BAD, x -> x.step(b[0], b[1],
                b[2]));
        }
        Twins.answer("the last order", Twins::full, 5, x -> x.step(5, 1, 0));
        Twins.refuse("behind the last order", Twins::full, LayerBook.BAD, x -> x.step(6, 0, 0));
    }

    private static void amendMonths() {
        Due.sentence("Promise 15, 'AMENDED: MONTH', with Terms 5, 'from a month m on (1 .. MONTH + 1)'");
        Twins.answer("1 at MONTH 0", Twins::fresh, 0, x -> x.amend(1, 0));
        Twins.answer("1 at MONTH 5", Twins::gone, 5, x -> x.amend(1, 0));
        Twins.answer("6 at MONTH 5", Twins::gone, 5, x -> x.amend(6, 0));
        Twins.answer("60 at MONTH 60", Twins::last, 60, x -> x.amend(60, 0));
        Twins.answer("61 at MONTH 60", Twins::last, 60, x -> x.amend(61, 2));
        Twins.answer("the last order", Twins::fresh, 0, x -> x.amend(1, 2));
        Twins.answer("the 6th order", Twins::full, 0, x -> x.amend(1, 5));
    }

    private static void amendBad() {
        Due.sentence("Promise 15, 'BAD: ORDER, m'");
        for (int order : new int[] {-1, 3, 6, LEAST, MOST}) {
            Twins.refuse("amend(1, " + order + ")", Twins::gone, LayerBook.BAD, x -> x.amend(1, order));
        }
        for (int month : new int[] {0, 7, -1, LEAST, MOST}) {
            Twins.refuse("amend(" + month + ", 0)", Twins::gone, LayerBook.BAD, x -> x.amend(month, 0));
        }
        Twins.refuse("2 at MONTH 0", Twins::fresh, LayerBook.BAD, x -> x.amend(2, 0));
        Twins.refuse("62 at MONTH 60", Twins::last, LayerBook.BAD, x -> x.amend(62, 0));
        Twins.refuse("behind the 6th order", Twins::full, LayerBook.BAD, x -> x.amend(1, 6));
    }

    private static void amendFirstNamed() {
        Due.sentence("Terms, 'Refusals .. change nothing' (an amendment that is refused for both)");
        Twins.refuse("amend(0, 6)", Twins::gone, LayerBook.BAD, x -> x.amend(0, 6));
        LayerBook x = Twins.gone();
        x.trip(0, 12);
        Due.is("refused", x.amend(7, 1), LayerBook.BAD);
        LayerBook y = Twins.gone();
        for (int k = 1; k <= 5; k++) {
            Due.is("no month is done again, THE TRIP in month " + k, x.month(k, 10), y.month(k, 10));
        }
    }

    private static void amendFromAMonthOn() {
        Due.sentence("Terms 5, 'an ORDER is THE ORDER of month m and all behind it'");
        LayerBook x = new LayerBook();
        x.loan(3, 10000, 100, 60);
        for (int o = 1; o < 4; o++) {
            Due.is("order", Due.order(x, "keep " + o + ";rest"), o);
        }
        x.amend(1, 1);
        x.run(3);
        x.amend(2, 2);
        x.amend(4, 3);
        Due.runTo(x, 60);
        for (int k = 1; k <= 60; k++) {
            int order = k < 2 ? 1 : k < 4 ? 2 : 3;
            Due.is("order of month " + k, x.month(k, 11), order);
            Due.is("kept in month " + k, x.month(k, 9), order);
        }
        Due.is("from month 60 on", x.amend(60, 0), 60);
        Due.is("month 59", x.month(59, 11), 3);
        Due.is("month 60", x.month(60, 11), 0);
        Due.is("from month 61 on", x.amend(61, 2), 60);
        Due.is("month 60", x.month(60, 11), 0);
    }

    private static void amendDoneAgain() {
        Due.sentence("Terms 5, 'months that went by are done again with the same COLLECTED, from the first one on'");
        LayerBook x = new LayerBook();
        x.loan(0, 12000, 100, 12);
        x.paper(9000, 100);
        x.paper(3000, 100);
        Due.order(x, "keep 900;pay a;own a;rest");
        Due.order(x, "pay b;own b;rest");
        x.run(4);
        Due.is("rest of four months", x.count(11), 4000 + 120 + 110 + 100 + 90);
        int[] collected = {x.month(4, 0), x.month(4, 1), x.month(4, 2), x.month(4, 3), x.month(4, 4)};
        Due.is("amended", x.amend(3, 1), 4);
        Due.is("rest of two months", x.count(11), 2000 + 120 + 110);
        Due.is("kept in month 3", x.paid(3, 0), 900);
        Due.is("of 270 that are due by then", x.paid(3, 1), 200);
        Due.is("what was short, and 90", x.paid(4, 1), 70 + 90);
        Due.is("principal", x.paperTold(0, 4), 1090 + 900 - 900 - 160);
        Due.is("amended to another order", x.amend(1, 2), 4);
        Due.is("none of a", x.paperTold(0, 4), 0);
        Due.is("none in the reserve", x.count(8), 0);
        Due.is("own b in month 1", x.paid(1, 1), 1090);
        for (int what = 0; what < collected.length; what++) {
            Due.is("collected as it was, " + what, x.month(4, what), collected[what]);
        }
        Due.is("as it was at first", x.amend(1, 0), 4);
        Due.is("rest of four months", x.count(11), 4000 + 120 + 110 + 100 + 90);
        Due.is("pool", x.month(4, 6), 8000);
        Due.is("written down from the last on", x.paperTold(1, 5), 3000);
        Due.is("then of a", x.paperTold(0, 5), 1000);
    }
}
