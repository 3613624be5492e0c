/** Promises 9 to 14: the tape, and the texts and orders that are read from it. */
public final class LawsTest {
    public static void main(String[] args) {
        feed();
        tapeIsEmptyBehind();
        values();
        names();
        saysRefused();
        lawFaults();
        opens();
        faultsLeaveNothing();
        lawForced();
        lawsFull();
        bytesBeyondAscii();
        orderSteps();
        orderFaults();
        ordersFull();
        stepRefused();
        Due.end("LawsTest");
    }

    private static void feed() {
        LayerBook x = new LayerBook();
        Due.is("n 0", x.feed(0, 1), -2);
        Due.is("n 9", x.feed(9, 1), -2);
        Due.is("n 3", x.feed(3, -1), 3);
        Due.is("tape", x.count(4), 3);
        for (int i = 1; i < 20; i++) {
            Due.is("n 8", x.feed(8, 0), 3 + 8 * i);
        }
        Due.is("full", x.feed(6, 0), -4);
        Due.is("bad ahead of full", x.feed(9, 0), -2);
        Due.is("to 160", x.feed(5, 0), 160);
        Due.is("full", x.feed(1, 0), -4);
        Due.is("tape stays", x.count(4), 160);
    }

    private static void tapeIsEmptyBehind() {
        LayerBook x = new LayerBook();
        Due.is("empty text", x.text(), -100);
        Due.is("empty order", x.order(), -100);
        Due.is("fault", Due.text(x, "fail"), -104);
        Due.is("empty by a fault", x.count(4), 0);
        Due.is("order fault", Due.order(x, "pay"), -103);
        Due.is("empty by a fault", x.count(4), 0);
        Due.is("text", Due.text(x, "fail 1;late 2;early 3;"), 1);
        Due.is("empty", x.count(4), 0);
        Due.is("order", Due.order(x, "rest"), 1);
        Due.is("empty", x.count(4), 0);
        Due.is("texts", x.count(2), 2);
        Due.is("orders", x.count(3), 2);
    }

    private static long value(String expression) {
        LayerBook x = new LayerBook();
        x.loan(2, 5000, 30, 14);
        Due.law(x, "fail " + expression + ";late 0;early 0;");
        return x.says(0, 0);
    }

    private static void values() {
        Object[][] cases = {{"7", 7}, {"9999", 9999}, {"0007", 7}, {"1+2*3", 7}, {"(1+2)*3", 9}, {"10-3-2", 5},
            {"10-(3-2)", 9}, {"2*3+4*5", 26}, {"- 3", -3}, {"2*-3", -6}, {"--3", 3}, {"3- -3", 6}, {"-2*3", -6},
            {"1<2", 1}, {"2<1", 0}, {"2<2", 0}, {"2=2", 1}, {"2=3", 0}, {"1+1=2", 1}, {"not 0", 1}, {"not 5", 0},
            {"not 1<0", 1}, {"not 1=0 and 1", 1}, {"not not 7", 1}, {"3 and 4", 1}, {"3 and 0", 0}, {"0 or 9", 1},
            {"0 or 0", 0}, {"1 or 0 and 0", 1}, {"(1 or 0)and 0", 0}, {"5 or 1 and 0", 1}, {"(1<2)+(2<3)", 2},
            {"0<-1", 0}, {"-1<0", 1}, {"9999*9999*9999", 9999 * 9999 * 9999}, {"9999*9999*30", 9999 * 9999 * 30},
            {"not(1)or 1", 1}, {"1\n+\n2", 3}, {"((((1))))", 1}};
        for (Object[] c : cases) {
            Due.is((String) c[0], value((String) c[0]), (Integer) c[1]);
        }
    }

    private static void names() {
        Due.is("month", value("month"), 1);
        Due.is("rate", value("rate"), 30);
        Due.is("left", value("left"), 14);
        Due.is("owed", value("owed"), 0);
        Due.is("balance", value("balance"), 5000);
        Due.is("kind", value("kind"), 2);
        LayerBook x = new LayerBook();
        x.loan(2, 5000, 30, 14);
        Due.law(x, "fail -(left*100+month);late 1000*(month<3);early rate;");
        x.run(2);
        Due.is("left and month", x.says(0, 0), -1203);
        Due.law(x, "fail owed;late 0;early rate;");
        Due.is("owed", x.says(0, 0), 30);
        x.run(10);
        Due.is("reset is not yet done", x.says(0, 2), 30);
        x.run(1);
        Due.is("reset is done", x.says(0, 2), 60);
        // In month 13 THE LAW itself sees the rate behind the reset.
        LayerBook y = new LayerBook();
        y.loan(2, 5000, 30, 14);
        Due.law(y, "fail 1000*(rate=60);late 0;early 0;");
        y.run(12);
        Due.is("paying", y.loanTold(0, 5), 0);
        y.run(1);
        Due.is("failed in month 13", y.loanTold(0, 5), 3);
    }

    private static void saysRefused() {
        LayerBook x = new LayerBook();
        Due.is("no loan", x.says(0, 0), LayerBook.NO);
        x.loan(0, 1000, 0, 1);
        Due.is("law 0", x.says(0, 2), 0);
        Due.is("loan -1", x.says(-1, 0), LayerBook.NO);
        Due.is("part -1", x.says(0, -1), LayerBook.NO);
        Due.is("part 3", x.says(0, 3), LayerBook.NO);
        Due.law(x, "fail left;late 0;early 0;");
        for (int i = 0; i < 5; i++) {
            x.run(12);
            Due.is("of one that is done", x.says(0, 0), i < 4 ? -11 - 12 * i : LayerBook.NO);
        }
    }

    private static void lawFaults() {
        Object[][] cases = {{"", 0}, {"   ", 3}, {"late 0;", 0}, {"fail;", 4}, {"fail 0", 6}, {"fail 0 ", 7},
            {"fail 0;late 0;early 0", 21}, {"fail 0;late 0;early 0;;", 22}, {"fail 0;late 0;early 0; x", 23},
            {"fail 0;early 0;", 7}, {"fail 00000;", 5}, {"fail 12345;", 5}, {"fail x;", 5}, {"fail months;", 5},
            {"fail 1 2;", 7}, {"fail 1+;", 7}, {"fail 1 + * 2;", 9}, {"fail (1;", 7}, {"fail 1);", 6},
            {"fail ();", 6}, {"fail 1<2<3;", 8}, {"fail 1<2=3;", 8}, {"fail 1<not 2;", 7}, {"fail 1+not 2;", 7},
            {"fail 1 or;", 9}, {"fail and 1;", 5}, {"fail late;", 5}, {"fail A;", 5}, {"fail 1 > 2;", 7},
            {"Fail 0;", 0}, {"failx 0;", 0}, {"failz 0;", 0}, {"afail 0;", 0}, {"fail 1or 2;lat 0", 11}, {"fail -;", 6}, {"fail not;", 8},
            {"fail 1,2;", 6}, {"fail 1\t;", 6}, {"fail lost;", 5}, {"fail not -not 1;", 10},
            {"fail0;late0;early0", 18}};
        for (Object[] c : cases) {
            LayerBook x = new LayerBook();
            Due.is((String) c[0], Due.text(x, (String) c[0]), -100 - (Integer) c[1]);
            Due.is("texts", x.count(2), 1);
        }
        Due.is("without blanks", Due.text(new LayerBook(), "fail0;late0;early0;"), 1);
        Due.is("blanks behind", Due.text(new LayerBook(), " fail 0 ; late 0 ;\n early 0 ; \n"), 1);
    }

    private static void opens() {
        Object[][] cases = {{"(((((1)))))", 0}, {"((((((1))))))", 5}, {"-----1", 0}, {"------1", 5},
            {"not not not not not 1", 0}, {"not not not not not not 1", 20}, {"(-(not(1)))", 0},
            {"not(-(-1))", 0}, {"not(-(-(1)))", 7}, {"(((((1)))))+(((((1)))))", 0},
            {"-----1+-----1", 0}, {"((((-1-2))))", 0}, {"((((-1--2))))", 0}, {"((((-(1)))))", 5},
            {"((((1-(2)))))", 0}, {"(((((1-2)))))", 0}, {"(((((1--2)))))", 7}, {"not((((1))))and not((((1))))", 0}};
        for (Object[] c : cases) {
            int fault = (Integer) c[1];
            int got = Due.text(new LayerBook(), "fail " + c[0] + ";late 0;early 0;");
            Due.is((String) c[0], got, fault == 0 ? 1 : -105 - fault);
        }
    }

    // What a text or an order with a FAULT had is not in the next one.
    private static void faultsLeaveNothing() {
        LayerBook x = new LayerBook();
        x.loan(0, 5000, 0, 10);
        StringBuilder full = new StringBuilder("fail 1");
        while (full.length() < 140) {
            full.append("+1");
        }
        Due.is("a long fault", Due.text(x, full + ";late (((((1"), -100 - full.length() - 12);
        Due.is("a long text", Due.text(x, full + ";late 0;early 0;"), 1);
        x.force(1);
        Due.is("its value", x.says(0, 0), 68);
        Due.is("a fault in five", Due.text(x, "fail (((((1;"), -111);
        Due.is("five", Due.text(x, "fail (((((1)))));late 7;early 8;"), 2);
        x.force(2);
        Due.is("fail", x.says(0, 0), 1);
        Due.is("late", x.says(0, 1), 7);
        Due.is("an order's fault", Due.order(x, "part b 9 if not late<5;fee 3 if trip=1;x"), -139);
        Due.is("an order", Due.order(x, "fee 2;rest"), 1);
        steps(x, 1, new int[][] {{0, -1, 2, 0, -1, -1}, {5, -1, -1, 0, -1, -1}});
    }

    private static void lawForced() {
        LayerBook x = new LayerBook();
        Due.is("no text 1", x.force(1), -2);
        Due.is("no text -1", x.force(-1), -2);
        Due.text(x, "fail 1;late 2;early 3;");
        Due.text(x, "fail 4;late 5;early 6;");
        x.loan(0, 1000, 0, 10);
        Due.is("a text is no law yet", x.says(0, 2), 0);
        Due.is("which was", x.force(1), 0);
        Due.is("fail", x.says(0, 0), 1);
        Due.is("late", x.says(0, 1), 2);
        Due.is("early", x.says(0, 2), 3);
        Due.is("which was", x.force(2), 1);
        Due.is("count", x.count(6), 2);
        Due.is("fail", x.says(0, 0), 4);
        Due.is("a fault", Due.text(x, "fail 9;late 9;early 9"), -121);
        Due.is("the law stays", x.says(0, 2), 6);
    }

    private static void lawsFull() {
        LayerBook x = new LayerBook();
        for (int i = 1; i < 6; i++) {
            Due.is("text " + i, Due.text(x, "fail " + i + ";late 0;early 0;"), i);
        }
        Due.is("full", Due.text(x, "fail"), -4);
        Due.is("the tape stays", x.count(4), 4);
        Due.is("an order reads it", x.order(), -100);
        x.loan(0, 1000, 0, 10);
        for (int i = 5; i > 0; i--) {
            x.force(i);
            Due.is("fail of text " + i, x.says(0, 0), i);
        }
    }

    private static void bytesBeyondAscii() {
        LayerBook x = new LayerBook();
        Due.is("a byte of 255", Due.text(x, "fail " + (char) 255 + ";"), -105);
        Due.is("a byte of 0", Due.order(x, "rest" + (char) 0), -104);
        x.feed(8, 0x7473657274736572L);
        Due.is("the lowest byte first", x.order(), -100);
        x.feed(4, 0x7473657274736572L);
        Due.is("the four lowest", x.order(), 1);
    }

    private static void steps(LayerBook x, int order, int[][] want) {
        Due.is("steps", x.step(order, -1, 0), want.length);
        for (int i = 0; i < want.length; i++) {
            for (int what = 0; what < 6; what++) {
                Due.is("step " + i + " what " + what, x.step(order, i, what), want[i][what]);
            }
        }
    }

    private static void orderSteps() {
        LayerBook x = new LayerBook();
        Due.is("order", Due.order(x, "fee 10 if month<3;pay a if late=0;own b if not lost<9999;part c 50 if not cover=0;"
            + "keep 0007;pay d;own e if trip = 1;rest"), 1);
        steps(x, 1, new int[][] {{0, -1, 10, 1, 0, 3}, {1, 0, -1, 2, 1, 0}, {2, 1, -1, 3, 2, 9999}, {3, 2, 50, 4, 3, 0},
            {4, -1, 7, 0, -1, -1}, {1, 3, -1, 0, -1, -1}, {2, 4, -1, 2, 4, 1}, {5, -1, -1, 0, -1, -1}});
        steps(x, 0, new int[][] {{5, -1, -1, 0, -1, -1}});
        Due.is("ten steps", Due.order(x, "fee 1;fee 2;fee 3;fee 4;fee 5;fee 6;fee 7;fee 8;fee 9;rest"), 2);
        Due.is("ten", x.step(2, -1, 0), 10);
        Due.is("the ninth", x.step(2, 8, 2), 9);
        Due.is("the first order stays", x.step(1, 3, 2), 50);
    }

    private static void orderFaults() {
        Object[][] cases = {{"", 0}, {" \n", 2}, {"rest;", 4}, {"rest if trip=1", 5}, {"rest rest", 5}, {"pay", 3},
            {"pay a", 5}, {"pay a;", 6}, {"pay ;rest", 4}, {"fee ;rest", 4}, {"part ;rest", 5}, {"part b ;rest", 7}, {"pay a if ;rest", 9}, {"pay a rest", 6}, {"pay f;rest", 4}, {"pay 1;rest", 4}, {"pay ab;rest", 4},
            {"fee a;rest", 4}, {"fee;rest", 3}, {"part a;rest", 6}, {"part 5 a;rest", 5}, {"keep -5;rest", 5},
            {"keep 99999;rest", 5}, {"pay a if;rest", 8}, {"pay a if pool=1;rest", 9}, {"pay a if month;rest", 14},
            {"pay a if month+1;rest", 14}, {"pay a if month<;rest", 15}, {"pay a if month<a;rest", 15},
            {"pay a if not not month<1;rest", 13}, {"pay a if month<1 and late=0;rest", 17},
            {"pay a if 1<month;rest", 9}, {"; rest", 0}, {"pay a;;rest", 6}, {"take a;rest", 0}, {"Rest", 0},
            {"fee 1;fee 1;fee 1;fee 1;fee 1;fee 1;fee 1;fee 1;fee 1;pay a;rest", 54},
            {"fee 1;fee 1;fee 1;fee 1;fee 1;fee 1;fee 1;fee 1;fee 1;rest;rest", 58},
            {"pay a if month<12345;rest", 15}, {"pay a if (month<1);rest", 9}, {"pay a if owed<1;rest", 9}};
        for (Object[] c : cases) {
            LayerBook x = new LayerBook();
            Due.is((String) c[0], Due.order(x, (String) c[0]), -100 - (Integer) c[1]);
            Due.is("orders", x.count(3), 1);
        }
    }

    private static void ordersFull() {
        LayerBook x = new LayerBook();
        for (int i = 1; i < 6; i++) {
            Due.is("order " + i, Due.order(x, "keep " + i + ";rest"), i);
        }
        Due.is("full", Due.order(x, "rest"), -4);
        Due.is("the tape stays", x.count(4), 4);
        for (int i = 1; i < 6; i++) {
            Due.is("keep of order " + i, x.step(i, 0, 2), i);
        }
    }

    private static void stepRefused() {
        LayerBook x = new LayerBook();
        Due.is("order 1", x.step(1, 0, 0), -2);
        Due.is("order -1", x.step(-1, -1, 0), -2);
        Due.is("step 1", x.step(0, 1, 0), -2);
        Due.is("step -2", x.step(0, -2, 0), -2);
        Due.is("what -1", x.step(0, 0, -1), -2);
        Due.is("what 6", x.step(0, 0, 6), -2);
        Due.is("how many, what -1", x.step(0, -1, -1), -2);
        Due.is("how many, what 6", x.step(0, -1, 6), -2);
        for (int what = 0; what < 6; what++) {
            Due.is("how many", x.step(0, -1, what), 1);
        }
    }
}
