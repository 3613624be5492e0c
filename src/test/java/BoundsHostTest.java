/** The bounds of promises 23 to 26, and of Terms 6: sheets, their cells, the loans of a sheet, loans taken for a KIND. */
public final class BoundsHostTest {
    private static final int LEAST = Integer.MIN_VALUE, MOST = Integer.MAX_VALUE;
    private static final int NOTHING = -11, OUTSIDE = -12, UNLIKE = -13, NEGATIVE = -14;

    public static void main(String[] args) {
        sheetsAreMissing();
        sheetNumbers();
        sheetAllZero();
        sheetMissingAgain();
        sheetBad();
        sheetNegative();
        sheetFirstNamed();
        cellPlaces();
        cellBits();
        cellBad();
        cellNothing();
        cellOutside();
        cellFirstNamed();
        loansFourByFour();
        loansNumbers();
        loansLeftOut();
        loansOfEachSort();
        loansBad();
        loansUnlike();
        loansNothing();
        loansOutside();
        loansWhatStoodAhead();
        loansFirstNamed();
        takenBalance();
        takenUnder();
        takenBad();
        takenNothing();
        takenFirstNamed();
        Due.end("BoundsHostTest");
    }

    private static LayerBook empty() {
        return new LayerBook();
    }

    private static LayerBook sheetBook(int sort, int n) {
        LayerBook x = new LayerBook();
        x.loan(3, 10000, 100, 60);
        x.run(1);
        Due.is("sheet", x.sheet(0, sort, n), 1);
        return x;
    }

    private static void fill(LayerBook x, int sheet, int from, int... values) {
        for (int i = 0; i < values.length; i++) {
            Due.is("cell", x.cell(sheet, from + i, values[i]), 1);
        }
    }

    private static void sheetsAreMissing() {
        Due.sentence("Terms 6, 'SHEETS 0 .. 3 are rows of numbers, or missing (as all are at first)'");
        for (int sheet = 0; sheet < 4; sheet++) {
            int told = sheet;
            Twins.refuse("cell of " + sheet, BoundsHostTest::empty, NOTHING, x -> x.cell(told, 0, 1));
            Twins.refuse("loans of " + sheet, BoundsHostTest::empty, NOTHING, x -> x.loans(told, 0, 0, 0));
            Twins.answer("it becomes a row", BoundsHostTest::empty, 1, x -> x.sheet(told, 2, 1));
        }
        LayerBook x = new LayerBook();
        for (int sheet = 0; sheet < 4; sheet++) {
            x.sheet(sheet, sheet % 3, 4 + sheet);
        }
        for (int sheet = 0; sheet < 4; sheet++) {
            Due.is("the last of " + sheet, x.cell(sheet, 3 + sheet, 1), 1);
            Due.is("behind the last of " + sheet, x.cell(sheet, 4 + sheet, 1), OUTSIDE);
            Due.is("its sort", x.loans(sheet, sheet % 3, 0, 0), 0);
        }
    }

    private static void sheetNumbers() {
        Due.sentence("Promise 23, 'A SHEET becomes a row of n of a sort .. : 1', with Terms 6, 'of sort 0 bytes, 1 shorts, 2 ints'");
        for (int sort = 0; sort < 3; sort++) {
            for (int n : new int[] {0, 1, 39, 40}) {
                LayerBook x = sheetBook(sort, n);
                for (int other = 0; other < 3; other++) {
                    Due.is("of sort " + sort + " for " + other, x.loans(0, other, 0, 0), other == sort ? 0 : UNLIKE);
                }
                if (n > 0) {
                    Due.is("the last of " + n, x.cell(0, n - 1, 1), 1);
                }
                Due.is("behind the last of " + n, x.cell(0, n, 1), OUTSIDE);
            }
        }
    }

    private static void sheetAllZero() {
        Due.sentence("Promise 23, 'all 0'");
        for (int sort = 0; sort < 3; sort++) {
            // Nothing was paid in this month, so all numbers are held against 0.
            LayerBook x = new LayerBook();
            x.run(1);
            for (int round = 0; round < 2; round++) {
                Due.is("a row of 40", x.sheet(1, sort, 40), 1);
                for (int from = 0; from < 40; from += 10) {
                    Due.is("0 from " + from, x.report(1, 1, sort, from, 10), LayerBook.NONE);
                }
                for (int i = 0; i < 40; i++) {
                    x.cell(1, i, -1);
                    Due.is("place " + i + " is not 0", x.report(1, 1, sort, i, 1), 0);
                }
            }
        }
        LayerBook x = sheetBook(2, 40);
        fill(x, 0, 0, 5, 6, 7);
        x.sheet(0, 0, 1);
        x.sheet(0, 2, 40);
        x.cell(0, 0, 100);
        Due.is("of another sort between", x.report(1, 0, 2, 0, 10), LayerBook.NONE);
        fill(x, 0, 1, 7);
        x.sheet(0, -1, 0);
        x.sheet(0, 2, 40);
        x.cell(0, 0, 100);
        Due.is("missing between", x.report(1, 0, 2, 0, 10), LayerBook.NONE);
    }

    private static void sheetMissingAgain() {
        Due.sentence("Promise 23, 'or missing (sort -1: n does not matter): 1'");
        for (int n : new int[] {0, 1, 40, 41, -1, LEAST, MOST}) {
            LayerBook x = sheetBook(2, 4);
            Due.is("n " + n, x.sheet(0, -1, n), 1);
            Due.is("missing", x.cell(0, 0, 1), NOTHING);
            Due.is("missing again", x.sheet(0, -1, n), 1);
        }
    }

    private static void sheetBad() {
        Due.sentence("Promise 23, 'BAD: no such SHEET, sort; n above 40'");
        int[][] bad = {{-1, 2, 4}, {4, 2, 4}, {LEAST, 2, 4}, {MOST, 2, 4}, {-1, -1, 0}, {4, -1, 0}, {0, -2, 4}, {0, 3, 4},
            {0, LEAST, 4},
            {0, MOST, 4}, {0, 0, 41}, {0, 1, 41}, {0, 2, 41}, {0, 2, MOST}, {3, 2, 41}};
        for (int[] b : bad) {
            Twins.refuse("sheet(" + b[0] + ", " + b[1] + ", " + b[2] + ")", Twins::gone, LayerBook.BAD, x -> x.sheet(b[0],
                b[1], b[2]));
        }
    }

    private static void sheetNegative() {
        Due.sentence("Promise 23, '-14' (a size below 0)");
        for (int sort = 0; sort < 3; sort++) {
            for (int n : new int[] {-1, -40, LEAST}) {
                int told = sort;
                Twins.refuse("sort " + sort + " n " + n, Twins::gone, NEGATIVE, x -> x.sheet(0, told, n));
                Twins.refuse("of a missing one, n " + n, Twins::gone, NEGATIVE, x -> x.sheet(3, told, n));
            }
        }
        Twins.answer("n 0", Twins::gone, 1, x -> x.sheet(0, 2, 0));
    }

    private static void sheetFirstNamed() {
        Due.sentence("Terms, 'Refusals, the first that the call's words name', with Promise 23, 'BAD ..; -14'");
        Twins.refuse("no such SHEET, n -1", Twins::gone, LayerBook.BAD, x -> x.sheet(4, 2, -1));
        Twins.refuse("no such sort, n -1", Twins::gone, LayerBook.BAD, x -> x.sheet(0, 3, -1));
        Twins.refuse("no such sort, n -1", Twins::gone, LayerBook.BAD, x -> x.sheet(0, -2, -1));
    }

    private static void cellPlaces() {
        Due.sentence("Promise 24, 'Item i of a SHEET becomes v .. : 1'");
        LayerBook x = sheetBook(2, 40);
        for (int i = 0; i < 40; i++) {
            Due.is("place " + i, x.cell(0, i, i == 39 ? 100 : 1), 1);
        }
        Due.is("the last became 100", x.report(1, 0, 2, 39, 1), LayerBook.NONE);
        Due.is("the one ahead 1", x.report(1, 0, 2, 38, 1), 0);
        Due.is("it becomes another one", x.cell(0, 38, 100), 1);
        Due.is("100", x.report(1, 0, 2, 38, 1), LayerBook.NONE);
    }

    private static void cellBits() {
        Due.sentence("Promise 24, '(of bytes, shorts its lowest 8, 16 bits)'");
        // In month 1 rest took 100.
        int[][] same = {{0, 100}, {0, 356}, {0, -156}, {0, 65636}, {0, 100 + (MOST & ~255)}, {0, LEAST + 100}, {1, 100},
            {1, 65636},
            {1, -65436}, {1, LEAST + 100}, {2, 100}};
        for (int[] c : same) {
            LayerBook x = sheetBook(c[0], 1);
            x.cell(0, 0, c[1]);
            Due.is("sort " + c[0] + " of " + c[1], x.report(1, 0, c[0], 0, 1), LayerBook.NONE);
        }
        int[][] others = {{0, 99}, {0, 101}, {0, 228}, {0, 484}, {1, 356}, {1, -156}, {1, 32868}, {2, 356}, {2, 65636},
            {2, LEAST + 100},
            {2, -100}};
        for (int[] c : others) {
            LayerBook x = sheetBook(c[0], 1);
            x.cell(0, 0, c[1]);
            Due.is("sort " + c[0] + " of " + c[1], x.report(1, 0, c[0], 0, 1), 0);
        }
        int[][] zeros = {{0, 256}, {0, -256}, {0, 65536}, {0, LEAST}, {1, 65536}, {1, -65536}, {1, LEAST}, {2, 0}};
        for (int[] c : zeros) {
            LayerBook x = sheetBook(c[0], 2);
            x.cell(0, 0, 100);
            x.cell(0, 1, c[1]);
            Due.is("sort " + c[0] + " of " + c[1] + " is 0", x.report(1, 0, c[0], 0, 2), LayerBook.NONE);
        }
        // As Java's bytes and shorts: from -128 to 127, from -32768 to 32767.
        LayerBook y = new LayerBook();
        y.sheet(0, 1, 4);
        fill(y, 0, 0, 0, 32767, 5, 6);
        Due.is("a balance of 32767", y.loans(0, 1, 0, 1), 1);
        y.cell(0, 1, 32768);
        Due.is("32768 is -32768", y.loans(0, 1, 0, 1), 0);
        y.cell(0, 1, 66536);
        Due.is("66536 is 1000", y.loans(0, 1, 0, 1), 1);
        Due.is("its BALANCE", y.loanTold(1, 1), 1000);
        y.cell(0, 1, -64536);
        Due.is("-64536 is 1000", y.loans(0, 1, 0, 1), 1);
    }

    private static void cellBad() {
        Due.sentence("Promise 24, 'BAD: no such SHEET'");
        for (int sheet : new int[] {-1, 4, LEAST, MOST}) {
            Twins.refuse("cell(" + sheet + ", 0, 1)", Twins::gone, LayerBook.BAD, x -> x.cell(sheet, 0, 1));
        }
    }

    private static void cellNothing() {
        Due.sentence("Promise 24, '-11' (nothing where something is asked)");
        Twins.refuse("cell(3, 0, 1)", Twins::gone, NOTHING, x -> x.cell(3, 0, 1));
        Twins.refuse("cell(3, 0, 0)", BoundsHostTest::empty, NOTHING, x -> x.cell(3, 0, 0));
    }

    private static void cellOutside() {
        Due.sentence("Promise 24, '-12' (a place outside)");
        int[][] outside = {{0, -1}, {0, 6}, {0, 39}, {0, 40}, {1, 8}, {2, 0}, {2, -1}, {0, LEAST}, {0, MOST}, {1, LEAST},
            {1, MOST}};
        for (int[] o : outside) {
            Twins.refuse("cell(" + o[0] + ", " + o[1] + ", 1)", Twins::gone, OUTSIDE, x -> x.cell(o[0], o[1], 1));
        }
        Twins.answer("the last", Twins::gone, 1, x -> x.cell(0, 5, 1));
        Twins.answer("the first", Twins::gone, 1, x -> x.cell(1, 0, 1));
        LayerBook x = sheetBook(2, 40);
        x.sheet(0, 2, 3);
        Due.is("of one that was longer", x.cell(0, 3, 1), OUTSIDE);
        x.sheet(0, 2, 4);
        Due.is("of one that is longer", x.cell(0, 3, 1), 1);
    }

    private static void cellFirstNamed() {
        Due.sentence("Terms, 'Refusals, the first that the call's words name', with Promise 24, 'BAD; -11; -12'");
        Twins.refuse("no such SHEET, outside", Twins::gone, LayerBook.BAD, x -> x.cell(4, 99, 1));
        Twins.refuse("missing, outside", Twins::gone, NOTHING, x -> x.cell(3, -1, 1));
    }

    /** A sheet of ints that holds so many loans from a place on, each of another balance. */
    private static LayerBook loansBook(int from, int loans) {
        LayerBook x = new LayerBook();
        x.sheet(0, 2, 40);
        for (int n = 0; n < loans; n++) {
            fill(x, 0, from + 4 * n, n % 6, 1000 + n, 20 + n, 30 + n);
        }
        return x;
    }

    private static void loansFourByFour() {
        Due.sentence("Promise 25, 'from one on, four by four (as of loan()), n of them (0 .. 10): how many came'");
        for (int from = 0; from < 5; from++) {
            LayerBook x = loansBook(from, 9);
            Due.is("nine from " + from, x.loans(0, 2, from, 9), 9);
            for (int n = 0; n < 9; n++) {
                int[] want = {n % 6, 1000 + n, 20 + n, 30 + n};
                for (int what = 0; what < 4; what++) {
                    Due.is("loanTold(" + n + ", " + what + ")", x.loanTold(n, what), want[what]);
                }
            }
            Due.is("loans", x.count(0), 9);
        }
    }

    private static void loansNumbers() {
        Due.sentence("Promise 25, 'n of them (0 .. 10)'");
        for (int n = 0; n <= 10; n++) {
            int told = n;
            Twins.answer("n " + n, () -> loansBook(0, 10), n, x -> x.loans(0, 2, 0, told));
        }
        Twins.refuse("n 0", () -> loansBook(0, 10), 0, x -> x.loans(0, 2, 0, 0));
        Twins.refuse("n 11", () -> loansBook(0, 10), LayerBook.BAD, x -> x.loans(0, 2, 0, 11));
        Twins.refuse("n -1", () -> loansBook(0, 10), LayerBook.BAD, x -> x.loans(0, 2, 0, -1));
        Twins.refuse("n 0 asks no place", () -> loansBook(0, 10), 0, x -> x.loans(0, 2, 40, 0));
    }

    private static void loansLeftOut() {
        Due.sentence("Promise 25, 'how many came (others are left out)'");
        int[][] bad = {{-1, 1000, 0, 1}, {6, 1000, 0, 1}, {0, 999, 0, 1}, {0, 1000000, 0, 1}, {0, 1000, -1, 1},
            {0, 1000, 201, 1},
            {0, 1000, 0, 0}, {0, 1000, 0, 61}};
        for (int[] b : bad) {
            LayerBook x = loansBook(0, 3);
            fill(x, 0, 4, b);
            Due.is("the others came", x.loans(0, 2, 0, 3), 2);
            Due.is("the one behind", x.loanTold(1, 1), 1002);
            LayerBook y = loansBook(0, 3);
            fill(y, 0, 0, b);
            Twins.answer("none came", () -> y, 0, z -> z.loans(0, 2, 0, 1));
            Due.is("loans", y.count(0), 0);
        }
        LayerBook x = loansBook(0, 10);
        x.loans(0, 2, 0, 10);
        Due.is("till twelve", x.loans(0, 2, 0, 10), 2);
        Due.is("loans", x.count(0), 12);
        Due.is("the last", x.loanTold(11, 1), 1001);
        Due.is("of a thirteenth", x.loans(0, 2, 0, 1), 0);
        LayerBook y = loansBook(0, 10);
        y.run(1);
        Due.is("a month went by", y.loans(0, 2, 0, 10), 0);
        Due.is("loans", y.count(0), 0);
    }

    private static void loansOfEachSort() {
        Due.sentence("Promise 25, 'LOANS by a SHEET that is taken for one of a sort'");
        LayerBook x = new LayerBook();
        x.sheet(0, 0, 4);
        x.sheet(1, 1, 4);
        x.sheet(2, 2, 4);
        for (int sheet = 0; sheet < 3; sheet++) {
            fill(x, sheet, 0, 5, 30000, 200, 60);
        }
        Due.is("of bytes, a balance of 48", x.loans(0, 0, 0, 1), 0);
        Due.is("of shorts, a rate of 200", x.loans(1, 1, 0, 1), 1);
        Due.is("of ints", x.loans(2, 2, 0, 1), 1);
        Due.is("loans", x.count(0), 2);
    }

    private static void loansBad() {
        Due.sentence("Promise 25, 'BAD: no such SHEET, sort, n'");
        int[][] bad = {{-1, 2, 0, 1}, {4, 2, 0, 1}, {LEAST, 2, 0, 1}, {MOST, 2, 0, 1}, {0, -1, 0, 1}, {0, 3, 0, 1},
            {0, LEAST, 0, 1},
            {0, MOST, 0, 1}, {0, 2, 0, -1}, {0, 2, 0, 11}, {0, 2, 0, LEAST}, {0, 2, 0, MOST}};
        for (int[] b : bad) {
            Twins.refuse("loans(" + b[0] + ", " + b[1] + ", " + b[2] + ", " + b[3] + ")", () -> loansBook(0, 10), LayerBook.BAD,
                x -> x.loans(b[0], b[1], b[2], b[3]));
        }
    }

    private static void loansUnlike() {
        Due.sentence("Promise 25, '-13' (a thing of another sort)");
        for (int n = 0; n < 2; n++) {
            int told = n;
            Twins.refuse("ints for bytes, n " + n, () -> loansBook(0, 10), UNLIKE, x -> x.loans(0, 0, 0, told));
            Twins.refuse("ints for shorts, n " + n, () -> loansBook(0, 10), UNLIKE, x -> x.loans(0, 1, 0, told));
            Twins.refuse("shorts for ints, n " + n, Twins::fresh, UNLIKE, x -> x.loans(1, 2, 0, told));
            Twins.refuse("bytes for shorts, n " + n, Twins::fresh, UNLIKE, x -> x.loans(2, 1, 0, told));
        }
    }

    private static void loansNothing() {
        Due.sentence("Promise 25, '-11' (nothing where something is asked)");
        for (int sort = 0; sort < 3; sort++) {
            int told = sort;
            Twins.refuse("sort " + sort, Twins::fresh, NOTHING, x -> x.loans(3, told, 0, 1));
            Twins.refuse("n 0, sort " + sort, Twins::fresh, NOTHING, x -> x.loans(3, told, 0, 0));
        }
    }

    private static void loansOutside() {
        Due.sentence("Promise 25, '-12' (a place outside)");
        for (int from : new int[] {-1, -4, 37, 38, 39, 40, LEAST, LEAST + 4, MOST, MOST - 3}) {
            Twins.refuse("from " + from, () -> loansBook(0, 10), OUTSIDE, x -> x.loans(0, 2, from, 1));
        }
        Twins.answer("the last four", () -> loansBook(0, 10), 1, x -> x.loans(0, 2, 36, 1));
        Twins.refuse("ten from -1", () -> loansBook(0, 10), OUTSIDE, x -> x.loans(0, 2, -1, 10));
        Twins.refuse("ten from the largest int", () -> loansBook(0, 10), OUTSIDE, x -> x.loans(0, 2, MOST, 10));
        Twins.refuse("of a sheet of none", Twins::fresh, OUTSIDE, x -> x.loans(2, 0, 0, 1));
        Twins.refuse("of a sheet of three", () -> {
            LayerBook x = new LayerBook();
            x.sheet(0, 2, 3);
            return x;
        }, OUTSIDE, x -> x.loans(0, 2, 0, 1));
    }

    private static void loansWhatStoodAhead() {
        Due.sentence("Promise 25, '-12: what stood ahead came'");
        for (int from = 1; from < 40; from++) {
            LayerBook x = loansBook(0, 10);
            for (int i = from; i < 40; i++) {
                x.cell(0, i, new int[] {0, 1000 + i, 20, 30}[(i - from) % 4]);
            }
            int fit = (40 - from) / 4;
            Due.is("ten from " + from, x.loans(0, 2, from, 10), OUTSIDE);
            Due.is("what stood ahead came", x.count(0), fit);
            for (int n = 0; n < fit; n++) {
                Due.is("BALANCE", x.loanTold(n, 1), 1000 + from + 4 * n + 1);
            }
        }
        LayerBook x = loansBook(0, 10);
        x.run(1);
        Due.is("none comes, outside all the same", x.loans(0, 2, 4, 10), OUTSIDE);
        Due.is("loans", x.count(0), 0);
    }

    private static void loansFirstNamed() {
        Due.sentence("Terms, 'Refusals, the first that the call's words name', with Promise 25, 'BAD ..; -13; -11; -12'");
        Twins.refuse("BAD n, another sort", Twins::fresh, LayerBook.BAD, x -> x.loans(0, 1, 0, 11));
        Twins.refuse("BAD n, missing", Twins::fresh, LayerBook.BAD, x -> x.loans(3, 1, 0, -1));
        Twins.refuse("BAD sort, outside", Twins::fresh, LayerBook.BAD, x -> x.loans(0, 3, 99, 1));
        Twins.refuse("another sort, outside", Twins::fresh, UNLIKE, x -> x.loans(0, 1, 99, 1));
        Twins.refuse("missing, outside", Twins::fresh, NOTHING, x -> x.loans(3, 1, 99, 1));
    }

    private static void takenBalance() {
        Due.sentence("Promise 26, 'A LOAN taken for one of KIND k (0 .. 5) .. : its BALANCE'");
        LayerBook x = new LayerBook();
        x.loan(0, 1000, 0, 2);
        x.loan(0, 999999, 0, 3);
        Due.is("the least", x.taken(0, 0), 1000);
        Due.is("the largest", x.taken(1, 0), 999999);
        x.run(1);
        Due.is("behind a month", x.taken(0, 0), 500);
        x.run(1);
        Due.is("of one that is done", x.taken(0, 0), 0);
    }

    private static void takenUnder() {
        Due.sentence("Promise 26, 'or one under that one (also by others between)', with Terms 2, '0 LOAN, 1 FIXED under LOAN, 2 RESET "
            + "under FIXED, 3 BULLET under LOAN, 4 HOLIDAY under RESET, 5 GRADED under BULLET', '-13' (a thing of another KIND)");
        String[] under = {"0", "01", "012", "03", "0124", "035"};
        LayerBook x = new LayerBook();
        for (int kind = 0; kind < 6; kind++) {
            x.loan(kind, 2000 + kind, 0, 60);
        }
        for (int kind = 0; kind < 6; kind++) {
            for (int k = 0; k < 6; k++) {
                boolean is = under[kind].indexOf('0' + k) >= 0;
                Due.is("KIND " + kind + " for " + k, x.taken(kind, k), is ? 2000 + kind : UNLIKE);
            }
        }
        Twins.refuse("a HOLIDAY for a BULLET", Twins::fresh, UNLIKE, y -> y.taken(1, 3));
        Twins.refuse("a RESET for a HOLIDAY", Twins::fresh, UNLIKE, y -> y.taken(2, 4));
    }

    private static void takenBad() {
        Due.sentence("Promise 26, 'BAD: k'");
        for (int k : new int[] {-1, 6, LEAST, MOST}) {
            Twins.refuse("taken(0, " + k + ")", Twins::fresh, LayerBook.BAD, x -> x.taken(0, k));
        }
        Twins.answer("taken(0, 0)", Twins::fresh, 5000, x -> x.taken(0, 0));
        Twins.answer("taken(0, 5)", Twins::fresh, UNLIKE, x -> x.taken(0, 5));
    }

    private static void takenNothing() {
        Due.sentence("Promise 26, '-11: no such LOAN'");
        for (int loan : new int[] {-1, 3, 12, LEAST, MOST}) {
            Twins.refuse("taken(" + loan + ", 0)", Twins::fresh, NOTHING, x -> x.taken(loan, 0));
        }
        Twins.refuse("of no loans", BoundsHostTest::empty, NOTHING, x -> x.taken(0, 0));
        Twins.answer("the 12th", Twins::full, 5011, x -> x.taken(11, 5));
        Twins.refuse("behind the 12th", Twins::full, NOTHING, x -> x.taken(12, 0));
    }

    private static void takenFirstNamed() {
        Due.sentence("Terms, 'Refusals, the first that the call's words name', with Promise 26, 'BAD: k; -11; -13'");
        Twins.refuse("BAD k, no such LOAN", Twins::fresh, LayerBook.BAD, x -> x.taken(3, 6));
        Twins.refuse("BAD k, no such LOAN", Twins::fresh, LayerBook.BAD, x -> x.taken(-1, -1));
        Twins.refuse("no such LOAN, whatever KIND", Twins::fresh, NOTHING, x -> x.taken(3, 5));
    }
}
