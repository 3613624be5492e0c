/**
 * Two books that were made by the same calls: one is refused a call, then all that can be asked is asked of both.
 * No book gets more than 512 calls, for what later calls answer is free.
 */
final class Twins {
    interface Maker {
        LayerBook make();
    }

    interface Call {
        long on(LayerBook x);
    }

    private static final int MOST_MONTHS_TOLD = 3, MOST_STEPS_TOLD = 1;

    private Twins() {
    }

    /** A call is refused as told, and all is behind it as it was ahead of it. */
    static void refuse(String name, Maker maker, long want, Call call) {
        LayerBook refused = maker.make();
        Due.is(name, call.on(refused), want);
        Due.same(name + " changes nothing", told(refused), told(maker.make()));
    }

    /** A call that answers this on a book, and may change it. */
    static void answer(String name, Maker maker, long want, Call call) {
        Due.is(name, call.on(maker.make()), want);
    }

    /** MONTH 0: two loans, a paper, a text that is the law, two orders, half a text on the tape, three sheets. */
    static LayerBook fresh() {
        LayerBook x = new LayerBook();
        x.loan(0, 5000, 100, 12);
        x.loan(4, 8000, 50, 20);
        x.loan(2, 6000, 80, 30);
        x.paper(9000, 50);
        x.paper(8000, 90);
        x.tell(0, 4711);
        x.tell(1, 35);
        x.tell(2, 1);
        x.trip(20, 2);
        Due.law(x, "fail 200;late 300;early 10;");
        Due.order(x, "pay a;keep 70 if trip=0;part b 30;fee 9;rest");
        Due.order(x, "fee 1;own a;rest");
        x.amend(1, 1);
        x.sheet(0, 2, 6);
        x.sheet(1, 1, 8);
        x.sheet(2, 0, 0);
        Due.feed(x, "re");
        return x;
    }

    /** Five months more went by; the first sheet holds what the steps took in month 5. */
    static LayerBook gone() {
        LayerBook x = fresh();
        x.run(5);
        for (int i = 0; i < 5; i++) {
            x.cell(0, i, x.paid(5, i));
            x.cell(1, i, x.paid(5, i));
        }
        return x;
    }

    /** No loan, paper, text, order or byte more has room. */
    static LayerBook full() {
        LayerBook x = new LayerBook();
        for (int n = 0; n < 12; n++) {
            x.loan(n % 6, 5000 + n, 10 + n, 20 + n);
        }
        for (int p = 0; p < 5; p++) {
            x.paper(9000 + p, 30 + p);
        }
        for (int i = 1; i < 6; i++) {
            Due.is("text", Due.text(x, "fail " + i + ";late 200;early 9;"), i);
            Due.is("order", Due.order(x, "fee " + i + ";rest"), i);
        }
        x.force(5);
        x.amend(1, 5);
        while (x.count(4) < 160) {
            x.feed(8, 0x2020202020202020L);
        }
        return x;
    }

    /** Full, and a month went by. */
    static LayerBook fullAndGone() {
        LayerBook x = full();
        x.run(1);
        return x;
    }

    /** MONTH is 60. */
    static LayerBook last() {
        LayerBook x = gone();
        Due.runTo(x, 60);
        return x;
    }

    /** All that can be asked, then what comes of the tape, of two months more, of an amendment, and what was told. */
    static String told(LayerBook x) {
        StringBuilder all = new StringBuilder();
        counts(all, x);
        loans(all, x);
        papers(all, x);
        orders(all, x);
        months(all, x);
        sheets(all, x);
        all.append(" tape");
        add(all, x.feed(2, 0x7473));
        add(all, x.order());
        add(all, x.count(4));
        all.append(" goes on");
        add(all, x.run(Math.min(2, Math.max(1, 60 - x.count(5)))));
        months(all, x);
        add(all, x.amend(1, 1));
        months(all, x);
        counts(all, x);
        all.append(" settings");
        add(all, x.tell(0, 1));
        add(all, x.tell(1, 1));
        add(all, x.tell(2, 1));
        return all.toString();
    }

    private static void add(StringBuilder all, long answer) {
        all.append(' ').append(answer);
    }

    private static void counts(StringBuilder all, LayerBook x) {
        all.append(" counts");
        for (int what = 0; what < 12; what++) {
            add(all, x.count(what));
        }
    }

    private static void loans(StringBuilder all, LayerBook x) {
        for (int n = 0; n < x.count(0); n++) {
            all.append(" loan");
            for (int what = 0; what < 7; what++) {
                add(all, x.loanTold(n, what));
            }
            add(all, x.says(n, n % 3));
        }
    }

    private static void papers(StringBuilder all, LayerBook x) {
        for (int p = 0; p < x.count(1); p++) {
            all.append(" paper");
            for (int what = 0; what < 6; what++) {
                add(all, x.paperTold(p, what));
            }
            add(all, x.life(p, 0));
            add(all, x.life(p, 1));
        }
    }

    private static void orders(StringBuilder all, LayerBook x) {
        for (int o = 0; o < x.count(3); o++) {
            all.append(" order");
            int steps = x.step(o, -1, 0);
            add(all, steps);
            for (int i = 0; i < Math.min(MOST_STEPS_TOLD, steps); i++) {
                for (int what = 0; what < 6; what++) {
                    add(all, x.step(o, i, what));
                }
            }
        }
    }

    private static void months(StringBuilder all, LayerBook x) {
        int month = x.count(5);
        for (int k = Math.max(1, month - MOST_MONTHS_TOLD + 1); k <= month; k++) {
            all.append(" month");
            for (int what = 0; what < 12; what++) {
                add(all, x.month(k, what));
            }
            for (int i = 0; i < 5; i++) {
                add(all, x.paid(k, i));
            }
        }
    }

    private static void sheets(StringBuilder all, LayerBook x) {
        int month = x.count(5);
        for (int sheet = 0; sheet < 4; sheet++) {
            all.append(" sheet");
            for (int sort = 0; sort < 3; sort++) {
                add(all, x.loans(sheet, sort, 0, 0));
                add(all, x.report(month, sheet, sort, 0, 5));
                add(all, x.report(month, sheet, sort, 5, 1));
                add(all, x.report(month, sheet, sort, 6, 1));
            }
        }
    }
}
