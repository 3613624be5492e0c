/** The bounds of promises 9 to 12, and of the Terms they lean on: the tape, and the texts that are read from it. */
public final class BoundsTextsTest {
    private static final int LEAST = Integer.MIN_VALUE, MOST = Integer.MAX_VALUE;

    public static void main(String[] args) {
        feedLowest();
        feedBad();
        feedFull();
        feedFirstNamed();
        textNumber();
        textEmptiesTape();
        textFull();
        faultEndsTooEarly();
        faultBytes();
        faultBlanks();
        faultWords();
        faultNumbers();
        faultOpen();
        faultOpenEnds();
        deepest();
        faultFirst();
        tokensAsLong();
        textOf160();
        comparedOnce();
        wraps();
        truths();
        forceWas();
        forceBad();
        saysAsItIs();
        saysNames();
        saysResetNotYet();
        saysNo();
        Due.end("BoundsTextsTest");
    }

    private static void feedLowest() {
        Due.sentence("Promise 9, 'The n lowest bytes of a number, the lowest first, come behind THE TAPE: how many it has'");
        // rest, and four bytes that can't stand in an order.
        long rest = 0x2121212174736572L;
        LayerBook x = new LayerBook();
        Due.is("4 of 8", x.feed(4, rest), 4);
        Due.is("order", x.order(), 1);
        Due.is("1", x.feed(1, rest), 1);
        Due.is("3", x.feed(3, rest >> 8), 4);
        Due.is("order", x.order(), 2);
        Due.is("5 of 8", x.feed(5, rest), 5);
        Due.is("the fifth byte came", x.order(), -104);
        Due.is("8", x.feed(8, 0x7473657220202020L), 8);
        Due.is("all eight came", x.order(), 3);
        Due.is("8 of a number below 0", x.feed(8, -1), 8);
        Due.is("7 of a number below 0", x.feed(7, LayerBook.NO), 15);
        Due.is("bytes of 255", x.order(), -100);
    }

    private static void feedBad() {
        Due.sentence("Promise 9, 'BAD: n is not 1 .. 8'");
        for (int n : new int[] {0, 9, -1, LEAST, MOST}) {
            Twins.refuse("feed(" + n + ", 0)", Twins::fresh, LayerBook.BAD, x -> x.feed(n, 0x20));
        }
        Twins.answer("feed(1, 0)", Twins::fresh, 3, x -> x.feed(1, 0));
        Twins.answer("feed(8, 0)", Twins::fresh, 10, x -> x.feed(8, 0));
    }

    private static LayerBook tapeOf(int size) {
        LayerBook x = new LayerBook();
        Due.feed(x, " ".repeat(size));
        Due.is("tape", x.count(4), size);
        return x;
    }

    private static void feedFull() {
        Due.sentence("Promise 9, 'FULL', with Terms 3, 'THE TAPE (160 bytes at most)'");
        Twins.answer("to 160", () -> tapeOf(152), 160, x -> x.feed(8, 0));
        Twins.refuse("to 161", () -> tapeOf(153), LayerBook.FULL, x -> x.feed(8, 0));
        Twins.answer("159 and 1", () -> tapeOf(159), 160, x -> x.feed(1, 0));
        Twins.refuse("159 and 2", () -> tapeOf(159), LayerBook.FULL, x -> x.feed(2, 0));
        Twins.refuse("160 and 1", () -> tapeOf(160), LayerBook.FULL, x -> x.feed(1, 0));
        Twins.refuse("160 and 8", () -> tapeOf(160), LayerBook.FULL, x -> x.feed(8, -1));
        LayerBook x = tapeOf(155);
        Due.is("155 and 8", x.feed(8, -1), LayerBook.FULL);
        Due.is("none of them came", x.count(4), 155);
        x.feed(4, 0x74736572);
        Due.is("the tape is as it was", x.order(), 1);
        Due.is("empty, so there is room", x.feed(8, 0), 8);
    }

    private static void feedFirstNamed() {
        Due.sentence("Terms, 'Refusals, the first that the call's words name', with Promise 9, 'BAD .. FULL'");
        Twins.refuse("9 bytes on a full tape", () -> tapeOf(160), LayerBook.BAD, x -> x.feed(9, 0));
        Twins.refuse("0 bytes on a full tape", () -> tapeOf(160), LayerBook.BAD, x -> x.feed(0, 0));
    }

    private static void textNumber() {
        Due.sentence("Promise 10, 'THE TAPE .. is a TEXT: its number', with Terms 1, 'TEXTS (6, TEXT 0 with them) .. are "
            + "numbered from 0 as they come'");
        LayerBook x = new LayerBook();
        for (int i = 1; i < 6; i++) {
            Due.is("text " + i, Due.text(x, "fail " + i + ";late 0;early 0;"), i);
            Due.is("a fault between", i < 5 ? Due.text(x, "fail 1;") : -107, -107);
            Due.is("texts", x.count(2), i + 1);
        }
        Due.is("THE LAW stays", x.count(6), 0);
    }

    private static void textEmptiesTape() {
        Due.sentence("Promise 10, 'THE TAPE, which is empty then (by a FAULT, too)'");
        LayerBook x = new LayerBook();
        Due.is("a text", Due.text(x, "fail 1;late 2;early 3;"), 1);
        Due.is("tape", x.count(4), 0);
        Due.is("of an empty tape", x.text(), -100);
        Due.is("a fault", Due.text(x, "fail 1;late 2;early 3;;"), -122);
        Due.is("tape", x.count(4), 0);
        Due.is("of an empty tape", x.text(), -100);
        Due.is("a text", Due.text(x, "fail 1;late 2;early 3;"), 2);
    }

    private static LayerBook textsFull(String tape) {
        LayerBook x = new LayerBook();
        for (int i = 1; i < 6; i++) {
            Due.is("text " + i, Due.text(x, "fail " + i + ";late 0;early 0;"), i);
        }
        Due.feed(x, tape);
        return x;
    }

    private static void textFull() {
        Due.sentence("Promise 10, 'FULL (ahead of all): no TEXT more has room (THE TAPE stays)'");
        Twins.refuse("a text", () -> textsFull("fail 1;late 0;early 0;"), LayerBook.FULL, LayerBook::text);
        Twins.refuse("a fault", () -> textsFull("fail 1"), LayerBook.FULL, LayerBook::text);
        Twins.refuse("an empty tape", () -> textsFull(""), LayerBook.FULL, LayerBook::text);
        LayerBook x = textsFull("rest");
        Due.is("full", x.text(), LayerBook.FULL);
        Due.is("the tape stays", x.count(4), 4);
        Due.is("an order has room", x.order(), 1);
        Due.is("the last text", x.force(5), 0);
        Due.is("no text behind it", x.force(6), LayerBook.BAD);
    }

    private static void faults(Object[][] cases) {
        for (Object[] c : cases) {
            LayerBook x = new LayerBook();
            int place = (Integer) c[1];
            Due.is((String) c[0], Due.text(x, (String) c[0]), place == LayerBook.NONE ? 1 : -100 - place);
            Due.is("texts", x.count(2), place == LayerBook.NONE ? 2 : 1);
        }
    }

    /** A text whose late part is E, with the place of its fault in that, or NONE. */
    private static void faultsOfE(Object[][] cases) {
        String ahead = "fail 0;late ";
        for (Object[] c : cases) {
            int place = (Integer) c[1];
            faults(new Object[][] {{ahead + c[0] + ";early 0;", place == LayerBook.NONE ? place : ahead.length() + place}});
        }
    }

    private static void faultEndsTooEarly() {
        Due.sentence("Terms 3, 'FAULT: .. (the text's size, if it ends too early)'");
        faults(new Object[][] {{"", 0}, {" ", 1}, {"fail", 4}, {"fail ", 5}, {"fail 1", 6}, {"fail 1;", 7}, {"fail 1; ", 8},
            {"fail 1;late", 11}, {"fail 1;late 2;", 14}, {"fail 1;late 2;early", 19}, {"fail 1;late 2;early 3", 21},
            {"fail 1;late 2;early 3 \n", 23}, {"fail (", 6}, {"fail (1", 7}, {"fail -", 6}, {"fail not", 8}, {"fail 1 +", 8},
            {"fail 1 <", 8}, {"fail 1 or", 9}, {"fail 1 and", 10}, {"fail 1 *", 8}});
    }

    private static void faultBytes() {
        Due.sentence("Terms 3, 'also of a byte that begins none'");
        int[] wrong = {0, 1, 9, 11, 13, 31, 33, 34, 39, 44, 46, 47, 58, 62, 64, 65, 90, 91, 96, 123, 126, 127, 128, 160, 255};
        for (int b : wrong) {
            faults(new Object[][] {{(char) b + "fail 0;late 0;early 0;", 0}, {"fail " + (char) b + ";", 5},
                {"fail 1" + (char) b, 6}, {"fail 1;late 2;early 3;" + (char) b, 22}});
        }
        Due.sentence("Terms 3, 'SIGNS ( ) ; + - * < ='");
        faults(new Object[][] {{"fail (1+2-3*4<5);late 6=7;early 8;", LayerBook.NONE}});
    }

    private static void faultBlanks() {
        Due.sentence("Terms 3, 'blanks (32, 10) may stand between'");
        faults(new Object[][] {{" \n fail \n 1 \n ; late 2;early 3; \n", LayerBook.NONE},
            {"fail0;late0;early0;", LayerBook.NONE},
            {"fa il 0;", 0}, {"fail 1 2;", 7}, {"fail\n1\n2;", 7}, {"fail\t1;", 4}, {"fail\r1;", 4}, {"fail 1 ;\f", 8}});
    }

    private static void faultWords() {
        Due.sentence("Terms 3, 'a WORD that is neither KEY nor NAME'");
        faultsOfE(new Object[][] {{"month", -1}, {"rate", -1}, {"left", -1}, {"owed", -1}, {"balance", -1}, {"kind", -1},
            {"mont", 0}, {"months", 0}, {"rated", 0}, {"lef", 0}, {"owe", 0}, {"balances", 0}, {"kin", 0}, {"a", 0}, {"z", 0},
            {"1 + lost", 4}, {"nott 1", 0}, {"no 1", 0}, {"1 ors 2", 2}, {"1 an 2", 2}});
        Due.sentence("Terms 3, 'fail, late, early, or, and, not are KEYS'");
        faultsOfE(new Object[][] {{"fail", 0}, {"late", 0}, {"early", 0}, {"or", 0}, {"and", 0}, {"1 not 2", 2},
            {"1 fail", 2}});
        faults(new Object[][] {{"month 0;", 0}, {"late 0;", 0}, {"fail 0;early 0;", 7}, {"fail 0;late 0;fail 0;", 14},
            {"fails 0;", 0}, {"fai 0;", 0}});
    }

    private static void faultNumbers() {
        Due.sentence("Terms 3, 'NUMBERS (as many digits as stand there, 4 at most)', 'a NUMBER that is too long'");
        faultsOfE(new Object[][] {{"9999", -1}, {"0000", -1}, {"10000", 0}, {"00000", 0}, {"99999", 0}, {"1+10000", 2},
            {"123456789012345678901234567890", 0}, {"1234 5", 5}, {"1234 12345", 5}, {"1 12345", 2}, {"(12345)", 1},
            {"12345+", 0}});
        Due.is("0009 is 9", value("0009"), 9);
        Due.is("9999", value("9999"), 9999);
    }

    private static void faultOpen() {
        Due.sentence("Terms 3, 'a ( , a not, a - ahead of a ONE while 5 of these are open'");
        faultsOfE(new Object[][] {{"(((((1)))))", -1}, {"((((((1))))))", 5}, {"not not not not not 1", -1},
            {"not not not not not not 1", 20}, {"-----1", -1}, {"------1", 5}, {"((((-1))))", -1}, {"(((((-1)))))", 5},
            {"((((not 1))))", -1}, {"(((((not 1)))))", 5}, {"-(-(-1))", -1}, {"-(-(-(1)))", 5}, {"not -not 1", 5},
            {"not(not(not 1))", -1}, {"not(not(not(1)))", 11}, {"not not not not -1", -1}, {"not not not not -(1)", 17},
            {"not not not not(-1)", 16}, {"(((((1", 6}});
    }

    private static void faultOpenEnds() {
        Due.sentence("Terms 3, 'a ( till its ) , not and - till what they belong to ends'");
        faultsOfE(new Object[][] {{"(((((1)))))+(((((1)))))*(((((1)))))", -1}, {"-----1------1", -1}, {"-----1-------1", 12},
            {"-----1+-----1", -1}, {"not not not not not 1 and not not not not not 1", -1},
            {"not not not not 1 = -1", -1}, {"not not not not not 1 = -1", 24}, {"not not not not not 1 or -1", -1},
            {"((((-1-1))))", -1}, {"((((-1--1))))", -1}, {"(((((1-1)))))", -1}, {"(((((1--1)))))", 7},
            {"((((1)+(2))))", -1}, {"((((1)+((2)))))", -1}, {"((((1)+(((2))))))", 9}, {"(((((1)+1)+1)+1)+1)", -1},
            {"not 1 + ((((1))))", -1}, {"not 1 + (((((1)))))", 12}, {"-1 + (((((1)))))", -1}});
    }

    private static void deepest() {
        Due.sentence("Terms 3, 'while 5 of these are open', of an E that has all its signs in each of 5 ( )");
        String level = "0or1and0<1+2*(";
        String within = "0or1and0<1+2*3";
        Due.is("five levels", value(level.repeat(5) + within + ")".repeat(5)), 1);
        Due.is("a sixth can't begin", Due.text(new LayerBook(), "fail " + level.repeat(6) + within), -105 - 14 * 6 + 1);
        // 1 and 5 times 1 in each level, and 3 within.
        Due.is("its sum", value("1+5*(".repeat(5) + "3" + ")".repeat(5)), 1 + 5 * (1 + 5 * (1 + 5 * (1 + 5 * (1 + 5 * 3)))));
        Due.is("not and - in ( )", value("not(-(not 1-3))"), 1);
        Due.is("five -", value("-----7"), -7);
        Due.is("five not", value("not not not not not 7"), 0);
        Due.is("- of ( )", value("-(2+3)*-(4)"), 20);
    }

    private static void faultFirst() {
        Due.sentence("Terms 3, 'FAULT: the place of the first byte of the first TOKEN that can't stand there'");
        faultsOfE(new Object[][] {{"", 0}, {"()", 1}, {"(1", 2}, {"1)", 1}, {"+1", 0}, {"*1", 0}, {"<1", 0}, {"=1", 0},
            {"1+", 2}, {"1 +* 2", 3}, {"1 + + 2", 4}, {"1 - - 2", -1}, {"1 + not 2", 4}, {"1 * not 2", 4}, {"1 < not 2", 4},
            {"- not 2", 2}, {"not", 3}, {"1 2", 2}, {"1 month", 2}, {"month 1", 6}, {"1 (2)", 2}, {"(1)(2)", 3}, {"1 or", 4},
            {"1 or or 2", 5}, {"xyz 12345 !", 0}, {"12345 xyz", 0}, {"! xyz", 0}});
        faults(new Object[][] {{"fail 1;;", 7}, {"fail 1;late 2;early 3;fail", 22}, {"fail 1;late 2;early 3;1", 22}, {"1", 0},
            {";", 0}, {"(", 0}, {"fail = 1;", 5}, {"fail(1);late(2);early(3);", LayerBook.NONE}});
    }

    private static void tokensAsLong() {
        Due.sentence("Terms 3, 'TOKENS, each as long as can be'");
        faultsOfE(new Object[][] {{"1or 2", -1}, {"1or2", -1}, {"month or2", -1}, {"monthor 2", 0}, {"1 ornot 2", 2},
            {"1or not2", -1},
            {"notmonth", 0}, {"not1", -1}, {"1andmonth", 1}, {"1and 2", -1}, {"12345", 0}});
        faults(new Object[][] {{"fail1;late2;early3;", LayerBook.NONE}, {"failmonth;", 0}});
    }

    private static void textOf160() {
        Due.sentence("Terms 3, 'A TEXT is read from THE TAPE (160 bytes at most)'");
        String ahead = "fail 1";
        String behind = ";late 0;early 0;";
        String most = ahead + "+1".repeat((160 - ahead.length() - behind.length()) / 2) + behind;
        Due.is("bytes", most.length(), 160);
        LayerBook x = new LayerBook();
        x.loan(0, 1000, 0, 1);
        Due.law(x, most);
        Due.is("says", x.says(0, 0), 70);
        Due.is("fault at the last byte", Due.text(x, most.substring(0, 159) + "x"), -100 - 159);
        Due.is("ends too early at 160", Due.text(x, most.substring(0, 159) + " "), -100 - 160);
        String blanks = "fail 1;late 0;early 0;";
        Due.is("blanks till 160", Due.text(x, " ".repeat(160 - blanks.length()) + blanks), 2);
        Due.is("160 blanks", Due.text(x, " ".repeat(160)), -100 - 160);
        Due.is("a word of 160", Due.text(x, "f".repeat(160)), -100);
        Due.is("a number of 155", Due.text(x, "fail " + "1".repeat(155)), -105);
    }

    private static void comparedOnce() {
        Due.sentence("Terms 3, 'SUM, perhaps < or = and a SUM'");
        faultsOfE(new Object[][] {{"1<2<3", 3}, {"1<2=3", 3}, {"1=2=3", 3}, {"(1<2)<3", -1}, {"1<(2<3)", -1},
            {"1<2 and 2<3", -1},
            {"not 1<2 or 2=3", -1}});
        Due.is("1<1", value("1<1"), 0);
        Due.is("1<2", value("1<2"), 1);
        Due.is("2<1", value("2<1"), 0);
        Due.is("1=1", value("1=1"), 1);
        Due.is("1=2", value("1=2"), 0);
        Due.is("(1<2)=1", value("(1<2)=1"), 1);
        Due.is("not belongs to a NOT", value("not 0=0"), 0);
        Due.is("not belongs to a NOT", value("not 1 and 0"), 0);
        Due.is("* ahead of +", value("1+2*3"), 7);
        Due.is("- from the left", value("9-3-2"), 4);
        Due.is("and ahead of or", value("1 or 1 and 0"), 1);
    }

    private static long value(String expression) {
        LayerBook x = new LayerBook();
        x.loan(2, 5000, 30, 14);
        Due.law(x, "fail " + expression + ";late 0;early 0;");
        return x.says(0, 0);
    }

    private static void wraps() {
        Due.sentence("Terms 3, 'An E is an int (32 bits, wrapping)'");
        Object[][] cases = {{"4096*4096*128-1", 2147483647L}, {"4096*4096*128", -2147483648L}, {"4096*4096*256", 0L},
            {"4096*4096*128-1+1", -2147483648L}, {"-4096*4096*128", -2147483648L}, {"-(4096*4096*128)", -2147483648L},
            {"-4096*4096*128-1", 2147483647L}, {"0-4096*4096*128", -2147483648L},
            {"9999*9999*9999", (long) (9999 * 9999 * 9999)},
            {"4096*4096*128<0", 1L}, {"4096*4096*128-1<4096*4096*128", 0L}, {"4096*4096*128=-(4096*4096*128)", 1L},
            {"not 4096*4096*256", 1L}, {"4096*4096*256 or 0", 0L}, {"not 4096*4096*128", 0L}, {"5000*5000*100-1", -1794967297L},
            {"balance*9999*99", (long) (5000 * 9999 * 99)}};
        for (Object[] c : cases) {
            Due.is((String) c[0], value((String) c[0]), (Long) c[1]);
        }
        Due.sentence("Terms 3, 'Each part counts as 0 at least, 1000 at most', of an E that wraps");
        Due.is("below 0: none fails", stateBehind("fail 4096*4096*128;late 0;early 0;"), 0);
        Due.is("above 1000: all fail", stateBehind("fail 4096*4096*128-1;late 0;early 0;"), 3);
        Due.is("f and l and e, held ahead of the sum", stateBehind("fail 4096*4096*128;late 0;early 4096*4096*128-1;"), 2);
        Due.is("late and early are far above", stateBehind("fail 0;late 4096*4096*128-1;early 4096*4096*128-1;"), 1);
    }

    private static long stateBehind(String law) {
        LayerBook x = new LayerBook();
        x.loan(0, 5000, 0, 10);
        Due.law(x, law);
        x.run(1);
        return x.loanTold(0, 5);
    }

    private static void truths() {
        Due.sentence("Terms 3, 'of or, and, not, <, = 1 or 0 (what is not 0 is true)'");
        Object[][] cases = {{"7 or 0", 1}, {"0 or -7", 1}, {"0 or 0", 0}, {"7 and 8", 1}, {"-7 and 8", 1}, {"7 and 0", 0},
            {"0 and 7", 0},
            {"not 7", 0}, {"not -1", 0}, {"not 0", 1}, {"not not 7", 1}, {"(3<4)*5", 5}, {"(3=3)+(4=4)", 2}, {"1 or 1", 1},
            {"1 and 1", 1}};
        for (Object[] c : cases) {
            Due.is((String) c[0], value((String) c[0]), (Integer) c[1]);
        }
    }

    private static void forceWas() {
        Due.sentence("Promise 11, 'A TEXT is THE LAW: which was'");
        LayerBook x = textsFull("");
        x.loan(0, 1000, 0, 1);
        Due.is("TEXT 0 was", x.force(5), 0);
        Due.is("fail of TEXT 5", x.says(0, 0), 5);
        Due.is("TEXT 5 was", x.force(5), 5);
        Due.is("TEXT 5 was", x.force(0), 5);
        Due.is("fail of TEXT 0", x.says(0, 0), 0);
        Due.is("TEXT 0 was", x.force(1), 0);
        Due.is("THE LAW", x.count(6), 1);
    }

    private static void forceBad() {
        Due.sentence("Promise 11, 'BAD'");
        for (int text : new int[] {-1, 2, 5, 6, LEAST, MOST}) {
            Twins.refuse("force(" + text + ")", Twins::fresh, LayerBook.BAD, x -> x.force(text));
        }
        Twins.refuse("behind the 6th", Twins::full, LayerBook.BAD, x -> x.force(6));
        Twins.answer("the 6th", Twins::full, 5, x -> x.force(5));
        LayerBook x = new LayerBook();
        Due.text(x, "fail 1");
        Due.is("of a fault no text is made", x.force(1), LayerBook.BAD);
    }

    private static void saysAsItIs() {
        Due.sentence("Promise 12, 'What a part (0 fail, 1 late, 2 early) of THE LAW comes to .. (as it is, not held within bounds)'");
        LayerBook x = new LayerBook();
        x.loan(0, 1000, 0, 1);
        Due.law(x, "fail -1;late 1001;early 9999*9;");
        Due.is("below 0", x.says(0, 0), -1);
        Due.is("above 1000", x.says(0, 1), 1001);
        Due.is("far above", x.says(0, 2), 89991);
        Due.law(x, "fail 4096*4096*128;late 4096*4096*128-1;early 1000;");
        Due.is("the least int", x.says(0, 0), LEAST);
        Due.is("the largest int", x.says(0, 1), MOST);
        Due.is("1000", x.says(0, 2), 1000);
    }

    private static void saysNames() {
        Due.sentence("Promise 12, 'for a LOAN if the next month began', with Terms 3, 'Of a LOAN: month: k, rate, left: MONTHS LEFT, "
            + "owed, balance, kind', and Terms 2, 'MONTHS LEFT are MONTHS + 1 - k'");
        LayerBook x = new LayerBook();
        x.loan(3, 999999, 200, 2);
        Due.law(x, "fail month;late left;early balance;");
        Due.is("month 1", x.says(0, 0), 1);
        Due.is("left in month 1", x.says(0, 1), 2);
        Due.is("balance", x.says(0, 2), 999999);
        Due.law(x, "fail 0;late 1000*(month=1);early 0;");
        x.run(1);
        Due.law(x, "fail owed;late rate;early kind;");
        Due.is("owed, cut", x.says(0, 0), 19999);
        Due.is("rate", x.says(0, 1), 200);
        Due.is("kind", x.says(0, 2), 3);
        x.run(1);
        Due.law(x, "fail month;late left;early balance+owed;");
        x.run(10);
        Due.is("month 13", x.says(0, 0), 13);
        Due.is("left of one that is over", x.says(0, 1), 2 + 1 - 13);
        Due.is("nothing is left", x.says(0, 2), 0);
    }

    private static void saysResetNotYet() {
        Due.sentence("Promise 12, '(.. RESET not yet done)'");
        LayerBook x = new LayerBook();
        x.loan(2, 50000, 30, 20);
        Due.law(x, "fail rate;late month;early 0;");
        Due.law(x, "fail rate*(month=13)*0;late 0;early rate*100+month;");
        x.force(0);
        x.run(12);
        x.force(2);
        Due.is("rate ahead of month 13", x.says(0, 2), 3013);
        Due.is("it changes nothing", x.loanTold(0, 2), 30);
        x.force(0);
        x.run(1);
        x.force(2);
        Due.is("rate behind month 13", x.says(0, 2), 6014);
    }

    private static void saysNo() {
        Due.sentence("Promise 12, 'NO: none such, MONTH is 60'");
        Due.is("of no loans", new LayerBook().says(0, 0), LayerBook.NO);
        int[][] none = {{-1, 0}, {3, 0}, {12, 0}, {LEAST, 0}, {MOST, 0}, {0, -1}, {0, 3}, {0, LEAST}, {0, MOST}};
        for (int[] b : none) {
            Twins.refuse("says(" + b[0] + ", " + b[1] + ")", Twins::gone, LayerBook.NO, x -> x.says(b[0], b[1]));
        }
        Twins.refuse("MONTH is 60", Twins::last, LayerBook.NO, x -> x.says(0, 0));
        LayerBook x = new LayerBook();
        x.loan(0, 1000, 0, 60);
        Due.law(x, "fail 0;late 0;early month;");
        x.force(0);
        Due.runTo(x, 59);
        x.force(1);
        Due.is("MONTH is 59", x.says(0, 2), 60);
        x.run(1);
        Due.is("MONTH is 60", x.says(0, 2), LayerBook.NO);
        Due.is("MONTH is 60, none such", x.says(1, 3), LayerBook.NO);
    }
}
