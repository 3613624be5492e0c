/** Promises 20 and 23 to 25: sheets, and what is read from them. */
public final class HostTest {
    public static void main(String[] args) {
        sheet();
        cell();
        loans();
        loansRefused();
        loansOfShorts();
        loansLeftOut();
        report();
        reportRefused();
        Due.end("HostTest");
    }

    private static void fill(LayerBook x, int sheet, int... values) {
        for (int i = 0; i < values.length; i++) {
            Due.is("cell", x.cell(sheet, i, values[i]), 1);
        }
    }

    private static void sheet() {
        LayerBook x = new LayerBook();
        int[][] bad = {{-1, 0, 1}, {4, 0, 1}, {0, -2, 1}, {0, 3, 1}, {0, 0, 41}, {4, 0, -1}, {0, 3, -1}};
        for (int[] b : bad) {
            Due.is("bad sheet", x.sheet(b[0], b[1], b[2]), -2);
        }
        Due.is("a size below 0", x.sheet(0, 0, -1), -14);
        Due.is("missing still", x.cell(0, 0, 1), -11);
        Due.is("largest", x.sheet(3, 2, 40), 1);
        Due.is("its last place", x.cell(3, 39, 1), 1);
        Due.is("of size 0", x.sheet(3, 2, 0), 1);
        Due.is("no place", x.cell(3, 0, 1), -12);
        Due.is("not missing", x.loans(3, 2, 0, 0), 0);
        Due.is("missing: n does not matter", x.sheet(3, -1, 99), 1);
        Due.is("missing: n does not matter", x.sheet(3, -1, -99), 1);
        Due.is("missing", x.cell(3, 0, 1), -11);
        x.run(1);
        Due.is("a sheet", x.sheet(1, 2, 3), 1);
        fill(x, 1, 7, 8, 9);
        Due.is("differs", x.report(1, 1, 2, 0, 3), 0);
        Due.is("anew", x.sheet(1, 2, 3), 1);
        Due.is("all 0", x.report(1, 1, 2, 0, 3), -1);
    }

    private static void cell() {
        LayerBook x = new LayerBook();
        Due.is("no sheet", x.cell(-1, 0, 0), -2);
        Due.is("no sheet", x.cell(4, 0, 0), -2);
        Due.is("missing", x.cell(0, 0, 0), -11);
        x.sheet(0, 1, 3);
        Due.is("place -1", x.cell(0, -1, 0), -12);
        Due.is("place 3", x.cell(0, 3, 0), -12);
        Due.is("place 2", x.cell(0, 2, 0), 1);
        // The month's cash is told by its lowest 8, 16, 32 bits.
        x.loan(3, 65000, 100, 2);
        x.run(2);
        Due.is("rest", x.paid(2, 0), 65650);
        x.sheet(0, 0, 1);
        x.cell(0, 0, 65650);
        Due.is("8 bits", x.report(2, 0, 0, 0, 1), 0);
        x.sheet(0, 1, 1);
        x.cell(0, 0, 65650);
        Due.is("16 bits", x.report(2, 0, 1, 0, 1), 0);
        x.sheet(0, 2, 1);
        x.cell(0, 0, 65650);
        Due.is("32 bits", x.report(2, 0, 2, 0, 1), -1);
        LayerBook y = new LayerBook();
        y.loan(3, 1000, 100, 9);
        y.run(1);
        y.sheet(0, 0, 1);
        y.cell(0, 0, 10 + 256);
        Due.is("lowest 8 bits", y.report(1, 0, 0, 0, 1), -1);
        y.sheet(0, 1, 1);
        y.cell(0, 0, 10 - 65536);
        Due.is("lowest 16 bits", y.report(1, 0, 1, 0, 1), -1);
        y.cell(0, 0, 10 + 256);
        Due.is("all of 16 bits", y.report(1, 0, 1, 0, 1), 0);
    }

    private static void loans() {
        LayerBook x = new LayerBook();
        x.sheet(0, 2, 10);
        fill(x, 0, 9, 1, 2000, 10, 3, 5, 999999, 200, 60, 9);
        Due.is("two came", x.loans(0, 2, 1, 2), 2);
        int[] want = {1, 2000, 10, 3};
        for (int what = 0; what < 4; what++) {
            Due.is("loan 0", x.loanTold(0, what), want[what]);
        }
        Due.is("loan 1", x.loanTold(1, 1), 999999);
        Due.is("none", x.loans(0, 2, 1, 0), 0);
        Due.is("what stood ahead came", x.loans(0, 2, 1, 3), -12);
        Due.is("four", x.count(0), 4);
        Due.is("half a loan is outside", x.loans(0, 2, 7, 1), -12);
        Due.is("below 0", x.loans(0, 2, -1, 1), -12);
        Due.is("far outside", x.loans(0, 2, 2147483647, 10), -12);
        Due.is("far below", x.loans(0, 2, -2147483648, 10), -12);
        Due.is("four", x.count(0), 4);
    }

    private static void loansRefused() {
        LayerBook x = new LayerBook();
        x.sheet(0, 2, 8);
        int[][] bad = {{-1, 2, 0, 1}, {4, 2, 0, 1}, {0, -1, 0, 1}, {0, 3, 0, 1}, {0, 2, 0, -1}, {0, 2, 0, 11}};
        for (int[] b : bad) {
            Due.is("bad loans", x.loans(b[0], b[1], b[2], b[3]), -2);
        }
        Due.is("another sort", x.loans(0, 1, 0, 1), -13);
        Due.is("another sort, outside", x.loans(0, 0, 99, 1), -13);
        Due.is("missing", x.loans(1, 2, 0, 1), -11);
        Due.is("missing, bad sort", x.loans(1, 3, 0, 1), -2);
        Due.is("missing, none asked", x.loans(1, 0, 0, 0), -11);
    }

    private static void loansOfShorts() {
        LayerBook x = new LayerBook();
        x.sheet(2, 1, 4);
        fill(x, 2, 0, 70000, 5, 6);
        Due.is("came", x.loans(2, 1, 0, 1), 1);
        Due.is("lowest 16 bits", x.loanTold(0, 1), 4464);
        x.cell(2, 1, 40000);
        Due.is("below 0 as a short", x.loans(2, 1, 0, 1), 0);
        Due.is("one", x.count(0), 1);
    }

    private static void loansLeftOut() {
        LayerBook x = new LayerBook();
        x.sheet(0, 2, 12);
        fill(x, 0, 0, 1000, 1, 1, 0, 999, 1, 1, 0, 1001, 1, 1);
        Due.is("a bad one is left out", x.loans(0, 2, 0, 3), 2);
        Due.is("the one behind came", x.loanTold(1, 1), 1001);
        for (int i = 0; i < 5; i++) {
            x.loans(0, 2, 0, 3);
        }
        Due.is("full", x.count(0), 12);
        Due.is("none has room", x.loans(0, 2, 0, 3), 0);
        LayerBook y = new LayerBook();
        y.sheet(0, 2, 12);
        fill(y, 0, 0, 1000, 1, 1);
        y.run(1);
        Due.is("a month went by", y.loans(0, 2, 0, 1), 0);
        Due.is("outside all the same", y.loans(0, 2, 9, 1), -12);
    }

    private static LayerBook paidBook() {
        LayerBook x = new LayerBook();
        x.loan(3, 10000, 100, 60);
        Due.order(x, "fee 10;keep 20;rest");
        x.amend(1, 1);
        x.run(2);
        return x;
    }

    private static void report() {
        LayerBook x = paidBook();
        x.sheet(1, 1, 8);
        fill(x, 1, 77, 10, 20, 70, 0, 0);
        Due.is("none differs", x.report(1, 1, 1, 1, 5), -1);
        Due.is("another month", x.report(2, 1, 1, 1, 5), 2);
        Due.is("from 0", x.report(1, 1, 1, 0, 5), 0);
        Due.is("none held", x.report(1, 1, 1, 0, 0), -1);
        x.cell(1, 5, 1);
        Due.is("where there is no step", x.report(1, 1, 1, 1, 7), 4);
        Due.is("held till there", x.report(1, 1, 1, 1, 4), -1);
        x.cell(1, 3, 71);
        Due.is("the first", x.report(1, 1, 1, 1, 7), 2);
        x.amend(1, 0);
        Due.is("what is so now", x.report(1, 1, 1, 1, 7), 0);
        x.sheet(2, 2, 13);
        x.cell(2, 0, 100);
        Due.is("ten", x.report(1, 2, 2, 0, 10), -1);
    }

    private static void reportRefused() {
        LayerBook x = paidBook();
        x.sheet(1, 1, 2);
        fill(x, 1, 10, 20);
        int[][] bad = {{0, 1, 1, 0, 1}, {3, 1, 1, 0, 1}, {1, -1, 1, 0, 1}, {1, 4, 1, 0, 1}, {1, 1, -1, 0, 1},
            {1, 1, 3, 0, 1}, {1, 1, 1, 0, -1}, {1, 1, 1, 0, 11}, {3, 0, 1, 0, 1}};
        for (int[] b : bad) {
            Due.is("bad report", x.report(b[0], b[1], b[2], b[3], b[4]), -2);
        }
        Due.is("missing", x.report(1, 0, 1, 0, 1), -11);
        Due.is("missing, none held", x.report(1, 0, 1, 0, 0), -11);
        Due.is("another sort", x.report(1, 1, 2, 0, 1), -13);
        Due.is("another sort", x.report(1, 1, 0, 9, 1), -13);
        Due.is("outside", x.report(1, 1, 1, 0, 3), -12);
        Due.is("outside", x.report(1, 1, 1, 2, 1), -12);
        x.cell(1, 0, 11);
        Due.is("differs", x.report(1, 1, 1, 0, 2), 0);
        Due.is("differs ahead of a place outside", x.report(1, 1, 1, 0, 3), -12);
        Due.is("below, then within", x.report(1, 1, 1, -1, 3), -12);
        Due.is("all below", x.report(1, 1, 1, -2, 2), -12);
        Due.is("none asked", x.report(1, 1, 1, 2, 0), -1);
        Due.is("below", x.report(1, 1, 1, -1, 1), -12);
        Due.is("far", x.report(1, 1, 1, 2147483647, 10), -12);
        Due.is("far", x.report(1, 1, 1, -2147483648, 10), -12);
    }
}
