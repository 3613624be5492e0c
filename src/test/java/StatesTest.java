/** Loans in each of their states, and what was told between months: sentences that no other test holds by name. */
public final class StatesTest {
    private static final int PAYING = 0, LATE = 1, EARLY = 2, FAILED = 3, SOLD = 4, DONE = 5, BOUGHT = 6;
    private static final int BALANCE = 1, OWED = 4, STATE = 5, PAY = 6;

    public static void main(String[] args) {
        statesAreTold();
        balancesOfStates();
        takenInEachState();
        payStaysInEachState();
        saysInEachState();
        poolOfStates();
        lateInTheLatestMonth();
        amendLeavesLoans();
        besideLeavesStates();
        besideAllElseAsItIs();
        backOfTheMonthOfTheSale();
        seedOfMonthsToCome();
        lawOfMonthsToCome();
        advancesWhileOn();
        boughtHasNoInterest();
        boughtLateOneIsLateNoMore();
        lastCallOf512();
        Due.end("StatesTest");
    }

    /** After month 5 LOAN n is in STATE n: each is a FIXED one of another RATE, and the law asks for that. */
    private static LayerBook statesBook() {
        LayerBook x = new LayerBook();
        for (int n = 0; n < 7; n++) {
            x.loan(1, 6000, 100 + n, n == DONE ? 5 : 20);
        }
        x.paper(9000, 50);
        x.tell(2, 1);
        Due.law(x, "fail 1000*(rate=103 and month=4 or rate=104 and month=2);"
            + "late 1000*(rate=101 and month=5 or rate=106 and month=5);early 1000*(rate=102 and month=3);");
        x.run(5);
        x.buy(BOUGHT);
        return x;
    }

    private static void statesAreTold() {
        Due.sentence("Terms 2, 'a STATE: 0 paying, 1 late .., 2 paid early, 3 failed, 4 sold, 5 done, 6 bought back'");
        LayerBook x = statesBook();
        for (int state = PAYING; state <= BOUGHT; state++) {
            Due.is("LOAN " + state, x.loanTold(state, STATE), state);
        }
    }

    private static void balancesOfStates() {
        Due.sentence("Terms 3, '(A LOAN that is paid, done, sold has BALANCE 0; one that is bought back has it till it is paid.)'");
        LayerBook x = statesBook();
        for (int state : new int[] {EARLY, SOLD, DONE}) {
            Due.is("BALANCE of LOAN " + state, x.loanTold(state, BALANCE), 0);
            Due.is("OWED of LOAN " + state, x.loanTold(state, OWED), 0);
        }
        int bought = x.loanTold(BOUGHT, BALANCE);
        Due.holds("BALANCE of the one that is bought back: " + bought, bought > 4000);
        Due.is("what it owes", x.loanTold(BOUGHT, OWED), bought * 106 / 10000);
        x.run(1);
        Due.is("BALANCE, paid", x.loanTold(BOUGHT, BALANCE), 0);
        Due.is("OWED, paid", x.loanTold(BOUGHT, OWED), 0);
        Due.is("STATE, paid", x.loanTold(BOUGHT, STATE), BOUGHT);
    }

    private static void takenInEachState() {
        Due.sentence("Promise 26, 'its BALANCE', of a LOAN in each STATE");
        LayerBook x = statesBook();
        for (int round = 0; round < 2; round++) {
            for (int state = PAYING; state <= BOUGHT; state++) {
                Due.is("LOAN " + state + " for LOAN", x.taken(state, 0), x.loanTold(state, BALANCE));
                Due.is("LOAN " + state + " for FIXED", x.taken(state, 1), x.loanTold(state, BALANCE));
                Due.is("LOAN " + state + " for RESET", x.taken(state, 2), -13);
            }
            x.run(1);
        }
    }

    private static void payStaysInEachState() {
        Due.sentence("Promise 3, '6 PAY (0: of none that is FIXED or under it, or ahead of the first month)', in each STATE");
        LayerBook x = new LayerBook();
        x.loan(1, 6000, 100, 20);
        x.run(1);
        int twenty = x.loanTold(0, PAY);
        LayerBook y = statesBook();
        y.run(12);
        Due.is("PAY of 20 months at 100", y.loanTold(PAYING, PAY), twenty);
        for (int state = PAYING; state <= BOUGHT; state++) {
            int pay = y.loanTold(state, PAY);
            Due.holds("PAY of LOAN " + state + ": " + pay, state == DONE ? pay > 1200 : pay >= twenty && pay < twenty + 9);
        }
    }

    private static void saysInEachState() {
        Due.sentence("Promise 12, 'comes to for a LOAN if the next month began (as it is ..)', in each STATE");
        LayerBook x = statesBook();
        Due.law(x, "fail balance;late owed;early left;");
        for (int state = PAYING; state <= BOUGHT; state++) {
            Due.is("balance of LOAN " + state, x.says(state, 0), x.loanTold(state, BALANCE));
            Due.is("owed of LOAN " + state, x.says(state, 1), x.loanTold(state, OWED));
            Due.is("left of LOAN " + state, x.says(state, 2), state == DONE ? 0 : 15);
        }
        Due.holds("a late one owes", x.says(LATE, 1) > 0);
        Due.holds("a failed one has its BALANCE", x.says(FAILED, 0) > 4000);
        Due.is("OWED is gone of a failed one", x.says(FAILED, 1), 0);
    }

    private static void poolOfStates() {
        Due.sentence("Terms 3, 'POOL: BALANCES of all that are paying, late or failed'");
        LayerBook x = statesBook();
        int three = x.loanTold(PAYING, BALANCE) + x.loanTold(LATE, BALANCE) + x.loanTold(FAILED, BALANCE);
        Due.is("POOL", x.count(7), three);
        Due.is("POOL behind month 5, ahead of the buying", x.month(5, 6), three + x.loanTold(BOUGHT, BALANCE));
        Due.is("LATE in month 5", x.month(5, 8), 2);
    }

    private static void lateInTheLatestMonth() {
        Due.sentence("Terms 2, '1 late (it did not pay in the latest month)'");
        LayerBook x = statesBook();
        x.run(1);
        Due.is("it paid in month 6", x.loanTold(LATE, STATE), PAYING);
        Due.is("it owes nothing", x.loanTold(LATE, OWED), 0);
        Due.is("LATE", x.month(6, 8), 0);
    }

    private static void amendLeavesLoans() {
        Due.sentence("Terms 5, 'months that went by are done again with the same COLLECTED'; loans stay as they are");
        LayerBook x = statesBook();
        LayerBook y = statesBook();
        Due.order(x, "keep 100;pay a;own a;rest");
        Due.is("amended", x.amend(1, 1), 5);
        for (int n = 0; n < 7; n++) {
            for (int what = 0; what < 7; what++) {
                Due.is("loanTold(" + n + ", " + what + ")", x.loanTold(n, what), y.loanTold(n, what));
            }
        }
        Due.is("POOL", x.count(7), y.count(7));
        Due.is("ADVANCED", x.count(9), y.count(9));
        Due.holds("papers do not", x.paperTold(0, 4) > y.paperTold(0, 4));
    }

    private static void besideLeavesStates() {
        Due.sentence("Terms 5, 'BESIDE: .. nothing changes', of loans in each STATE");
        LayerBook x = statesBook();
        LayerBook y = statesBook();
        Due.holds("INTERESTS of a year more", x.beside(12, 99999, 2) > 0);
        for (int n = 0; n < 7; n++) {
            for (int what = 0; what < 7; what++) {
                Due.is("loanTold(" + n + ", " + what + ")", x.loanTold(n, what), y.loanTold(n, what));
            }
        }
        for (int what = 0; what < 12; what++) {
            Due.is("count(" + what + ")", x.count(what), y.count(what));
        }
    }

    private static void besideAllElseAsItIs() {
        Due.sentence("Terms 5, 'BESIDE: what would be if so many months more went by with another SEED, all else as it is'");
        LayerBook x = statesBook();
        int bought = x.loanTold(BOUGHT, BALANCE);
        int failed = x.loanTold(FAILED, BALANCE);
        Due.is("LOSS in month 6", x.beside(1, 5, 0), 0);
        Due.is("LOSS till month 7", x.beside(2, 5, 0), failed - failed / 2);
        x.tell(1, 10);
        Due.is("LOSS with another BACK", x.beside(2, 5, 0), failed - failed / 10);
        long principals = x.beside(1, 5, 1);
        Due.holds("the one that is bought back is paid in the next month", principals > bought && principals < bought + 1000);
        Due.law(x, "fail 0;late 0;early 1000;");
        Due.is("PRINCIPALS with another law", x.beside(1, 5, 1),
            bought + x.loanTold(PAYING, BALANCE) + x.loanTold(LATE, BALANCE));
        Due.is("of the papers nothing by rest", x.beside(1, 5, 3), 0);
        Due.orderFrom(x, 6, "pay a;rest");
        int due = x.paperTold(0, 0) * 50 / 10000 + x.paperTold(0, 2);
        Due.is("with another ORDER what a is DUE", x.beside(1, 5, 3), due);
    }

    private static void backOfTheMonthOfTheSale() {
        Due.sentence("Terms 3, 'sold in month k + 3 ..: BACK (..) hundredths of its BALANCE come back', as BACK is then");
        LayerBook x = new LayerBook();
        x.loan(3, 10000, 0, 60);
        Due.law(x, "fail 1000;late 0;early 0;");
        x.tell(1, 80);
        x.run(3);
        x.tell(1, 20);
        x.run(1);
        Due.is("BACKS", x.month(4, 2), 2000);
        x.tell(1, 70);
        x.amend(1, 0);
        Due.is("BACKS of a month that went by", x.month(4, 2), 2000);
        Due.is("LOSS", x.month(4, 7), 8000);
    }

    private static void seedOfMonthsToCome() {
        Due.sentence("Terms 3, 'LOT of LOAN n in month k: ((SEED and ..', as SEED is when the month goes by");
        // With SEED 77 the lot of LOAN 0 in month 1 is 132.
        for (int at = 132; at <= 133; at++) {
            LayerBook x = new LayerBook();
            x.loan(0, 5000, 0, 12);
            Due.law(x, "fail 0;late " + at + ";early 0;");
            x.tell(0, 5);
            x.tell(0, 77);
            x.run(1);
            Due.is("late below " + at, x.loanTold(0, STATE), at == 133 ? LATE : PAYING);
            x.tell(0, 5);
            Due.is("what was stays", x.loanTold(0, STATE), at == 133 ? LATE : PAYING);
        }
    }

    private static void lawOfMonthsToCome() {
        Due.sentence("Promise 11, 'A TEXT is THE LAW', for months to come");
        LayerBook x = new LayerBook();
        x.loan(3, 5000, 100, 12);
        x.run(1);
        Due.law(x, "fail 0;late 1000;early 0;");
        Due.is("month 1 stays", x.month(1, 0), 50);
        x.run(1);
        Due.is("late in month 2", x.loanTold(0, STATE), LATE);
        Due.is("TEXT 1 was", x.force(0), 1);
        Due.is("it is late till month 3", x.loanTold(0, STATE), LATE);
        x.run(1);
        Due.is("it pays in month 3", x.month(3, 0), 100);
    }

    private static void advancesWhileOn() {
        Due.sentence("Terms 3, 'ADVANCES (on or off; off at first): while on ..'");
        LayerBook x = new LayerBook();
        x.loan(3, 5000, 100, 12);
        Due.law(x, "fail 0;late 1000;early 0;");
        int advanced = 0;
        for (int k = 1; k <= 6; k++) {
            boolean on = k % 3 > 0;
            x.tell(2, on ? 1 : 0);
            x.run(1);
            advanced += on ? 50 : 0;
            Due.is("advanced in month " + k, x.month(k, 3), on ? 50 : 0);
            Due.is("CASH of month " + k, x.month(k, 5), on ? 50 : 0);
            Due.is("ADVANCED behind month " + k, x.count(9), advanced);
        }
        x.force(0);
        x.run(1);
        Due.is("paid back while off", x.month(7, 4), 200);
        Due.is("INTERESTS", x.month(7, 0), 350);
        Due.is("CASH", x.month(7, 5), 150);
    }

    private static void boughtHasNoInterest() {
        Due.sentence("Promise 19, 'at once it is in STATE 6 (no INTEREST more)'");
        LayerBook x = new LayerBook();
        x.loan(3, 10000, 200, 60);
        x.loan(4, 10000, 200, 60);
        x.run(5);
        int holiday = x.loanTold(1, BALANCE);
        Due.is("what will be paid", x.buy(0), 10000);
        Due.is("what will be paid", x.buy(1), holiday);
        x.run(1);
        Due.is("INTERESTS", x.month(6, 0), 0);
        Due.is("PRINCIPALS, without the interest of a HOLIDAY's month", x.month(6, 1), 10000 + holiday);
    }

    private static void boughtLateOneIsLateNoMore() {
        Due.sentence("Promise 19, 'at once it is in STATE 6', of one that is late, with Terms 3, 'is advanced'");
        LayerBook x = new LayerBook();
        x.loan(3, 10000, 100, 2);
        x.tell(2, 1);
        Due.law(x, "fail 0;late 1000;early 0;");
        x.run(2);
        Due.is("a month more", x.loanTold(0, 3), 3);
        Due.is("ADVANCED", x.count(9), 200);
        Due.is("what will be paid", x.buy(0), 10200);
        x.run(1);
        Due.is("MONTHS", x.loanTold(0, 3), 3);
        Due.is("LATE", x.month(3, 8), 0);
        Due.is("nothing is advanced", x.month(3, 3), 0);
        Due.is("ADVANCED is paid back out of what was OWED", x.month(3, 4), 200);
        Due.is("CASH", x.month(3, 5), 10000);
    }

    private static void lastCallOf512() {
        Due.sentence("What it is, 'An object is used for at most 512 calls'");
        LayerBook x = new LayerBook();
        x.loan(3, 10000, 100, 60);
        for (int i = 2; i <= 510; i++) {
            Due.is("call " + i, x.beside(1 + i % 12, i, 2), 100 * (1 + i % 12));
        }
        Due.is("call 511", x.run(12), 12);
        Due.is("call 512", x.beside(12, 0, 2), 1200);
    }
}
