/** The edges of Terms 3, run(), and of promises 11 run, 12 payment, 13 paid: a test for each sentence that names one. */
public final class RunEdgeTest {
    private static final Check CHECK = new Check("RunEdgeTest");
    private static final int HELD = 6;
    private static final long DAY = 840 * 1000;
    private static final long MONTH = 30 * DAY;

    private RunEdgeTest() {
    }

    public static void main(String[] args) {
        runOfNothing();
        aMonthHasEndedBehindItsLastDay();
        theLastMonthNeverEnds();
        aMonthIsPaidOnce();
        noPaymentOf0();
        lessThanWasPaid();
        asKnownToday();
        aPostThatComesLate();
        theMostPayments();
        theGreatestPayment();
        byPostsThenMonths();
        paymentTakesAllThatThereIs();
        paymentRefuses();
        paymentsOfTheLatestRun();
        paymentsAsTheyWereThen();
        paidOfEachMonth();
        paidRefuses();
        countsOfRuns();
        CHECK.end();
    }

    private static void payment(PayScales office, int k, long post, long month, long sum) {
        Offices.payment(CHECK, office, k, post, month, sum);
    }

    /** Promise 11: "How many PAYMENTS there are": none without POSTS, nor without a MONTH that has ended. */
    private static void runOfNothing() {
        PayScales none = new PayScales();
        none.pass(1199);
        CHECK.due("run() without posts", none.run(), 0);
        CHECK.due("run() on day 0", Offices.ofPosts(8).run(), 0);
        CHECK.due("count(6)", none.count(6), 1);
    }

    /** Terms 3: "each MONTH that has ended (all of its DAYS ahead of TODAY)". */
    private static void aMonthHasEndedBehindItsLastDay() {
        for (int month : new int[] {0, 1, 20, 38}) {
            PayScales office = Offices.ofPosts(1);
            office.pass(30 * month + 29);
            CHECK.due("run() on the last day of month " + month, office.run(), month);
            CHECK.due("paid(0, " + month + ")", office.paid(0, month), 0);
            office.pass(1);
            CHECK.due("run() on the day behind month " + month, office.run(), 1);
            payment(office, 0, 0, month, MONTH);
            CHECK.due("paid(0, " + month + ")", office.paid(0, month), MONTH);
            CHECK.due("paid of the month behind", office.paid(0, month + 1), 0);
        }
    }

    /** Terms 3: "ahead of TODAY": MONTH 39 has the last DAY, which is never ahead of TODAY. */
    private static void theLastMonthNeverEnds() {
        PayScales office = Offices.ofPosts(1);
        office.pass(1199);
        CHECK.due("run() on day 1199", office.run(), 39);
        payment(office, 38, 0, 38, MONTH);
        CHECK.due("payment(39, 0)", office.payment(39, 0), -1);
        CHECK.due("paid(0, 38)", office.paid(0, 38), MONTH);
        CHECK.due("paid(0, 39)", office.paid(0, 39), 0);
        CHECK.due("due(0, 39, 1199)", office.due(0, 39, 1199), MONTH);
    }

    /** Terms 3: "what its DUE .. is more .. than what was PAID for it". */
    private static void aMonthIsPaidOnce() {
        PayScales office = Offices.ofPosts(1);
        office.pass(30);
        CHECK.due("run()", office.run(), 1);
        CHECK.due("run() again", office.run(), 0);
        office.pass(29);
        CHECK.due("run() ahead of the next month", office.run(), 0);
        office.pass(1);
        CHECK.due("run() behind the next month", office.run(), 1);
        payment(office, 0, 0, 1, MONTH);
        CHECK.due("paid(0, 0)", office.paid(0, 0), MONTH);
    }

    /** Terms 3: "a PAYMENT, if it isn't 0": the least that it can be, and 0. */
    private static void noPaymentOf0() {
        PayScales office = new PayScales();
        Texts.agree(office, "grade g from 0;scale g:1;plus a=50%;", 0);
        office.post(0);
        office.pass(60);
        CHECK.due("run() of a post that was not held", office.run(), 0);
        office.note(0, HELD, 29, 1);
        office.note(0, HELD, 30, 0);
        office.note(0, 7, 29, 18);
        CHECK.due("run() of one day of an eighth", office.run(), 1);
        payment(office, 0, 0, 0, 105 * 150);
        office.note(0, 7, 30, 88);
        CHECK.due("run() of a part that changes nothing", office.run(), 0);
        Texts.agree(office, "plus a=51%;", 29);
        CHECK.due("run() of one hundredth more", office.run(), 1);
        payment(office, 0, 0, 0, 105);
        office.note(0, 7, 29, 8);
        CHECK.due("run() of a part of 0", office.run(), 1);
        payment(office, 0, 0, 0, -105 * 151);
        CHECK.due("paid(0, 0)", office.paid(0, 0), 0);
    }

    /** Terms 3: "more (or less)". */
    private static void lessThanWasPaid() {
        PayScales office = Offices.ofPosts(1);
        office.pass(60);
        office.run();
        office.note(0, HELD, 59, 0);
        CHECK.due("run() of one day less", office.run(), 1);
        payment(office, 0, 0, 1, -DAY);
        CHECK.due("paid(0, 1)", office.paid(0, 1), MONTH - DAY);
        office.note(0, HELD, 59, 1);
        CHECK.due("run() of the day again", office.run(), 1);
        payment(office, 0, 0, 1, DAY);
        office.note(0, HELD, 0, 0);
        office.note(0, HELD, 59, 0);
        CHECK.due("run() of nothing", office.run(), 2);
        payment(office, 0, 0, 0, -MONTH);
        payment(office, 1, 0, 1, -MONTH);
        CHECK.due("paid(0, 0)", office.paid(0, 0), 0);
        CHECK.due("run() of nothing again", office.run(), 0);
    }

    /** Terms 3: "its DUE, as KNOWN TODAY". */
    private static void asKnownToday() {
        PayScales office = Offices.ofPosts(1);
        office.pass(59);
        Texts.agree(office, "plus a=20;", 0);
        CHECK.due("run() on the day of the telling", office.run(), 1);
        payment(office, 0, 0, 0, 2 * MONTH);
        office.pass(1);
        Texts.agree(office, "plus a=40;", 60);
        CHECK.due("run() of what begins today", office.run(), 1);
        payment(office, 0, 0, 1, 2 * MONTH);
    }

    /** Terms 3: "for each POST, each MONTH that has ended": of a POST that came behind them, too. */
    private static void aPostThatComesLate() {
        PayScales office = Offices.ofPosts(1);
        office.pass(65);
        office.run();
        office.post(0);
        CHECK.due("paid of the new post", office.paid(1, 0), 0);
        CHECK.due("run() of a post that is not held", office.run(), 0);
        office.note(1, HELD, 0, 1);
        CHECK.due("run() of a post that was held", office.run(), 2);
        payment(office, 0, 1, 0, MONTH);
        payment(office, 1, 1, 1, MONTH);
    }

    /** Promise 11: "How many PAYMENTS there are": the most. */
    private static void theMostPayments() {
        PayScales office = Offices.ofPosts(8);
        office.pass(1199);
        CHECK.due("run()", office.run(), 8 * 39);
        CHECK.due("count(5)", office.count(5), 8 * 39);
        payment(office, 0, 0, 0, MONTH);
        payment(office, 38, 0, 38, MONTH);
        payment(office, 39, 1, 0, MONTH);
        payment(office, 311, 7, 38, MONTH);
        CHECK.due("payment(312, 0)", office.payment(312, 0), -1);
        for (int post = 0; post < 8; post++) {
            office.note(post, HELD, 0, 0);
        }
        CHECK.due("run() of all back", office.run(), 8 * 39);
        payment(office, 311, 7, 38, -MONTH);
    }

    /** Promise 12: "how much", beyond an int, and below. */
    private static void theGreatestPayment() {
        PayScales office = WorthEdgeTest.greatest();
        office.note(0, HELD, 0, 1);
        long month = 30 * 840 * (999900 + 26L * 9999 * 999);
        office.pass(1199);
        office.run();
        payment(office, 38, 0, 38, month);
        CHECK.due("paid(0, 38)", office.paid(0, 38), month);
        office.note(0, HELD, 0, 0);
        office.run();
        payment(office, 38, 0, 38, -month);
        CHECK.due("paid(0, 38)", office.paid(0, 38), 0);
    }

    /** Promise 12: "by POSTS, then MONTHS". */
    private static void byPostsThenMonths() {
        PayScales office = Offices.ofPosts(3);
        office.note(1, HELD, 0, 0);
        office.note(1, HELD, 30, 1);
        office.pass(60);
        CHECK.due("run()", office.run(), 5);
        int[][] due = {{0, 0}, {0, 1}, {1, 1}, {2, 0}, {2, 1}};
        for (int k = 0; k < due.length; k++) {
            payment(office, k, due[k][0], due[k][1], MONTH);
        }
    }

    /** Promise 12: "what 0: the POST, 1: the MONTH, 2: how much", of the first and the last PAYMENT. */
    private static void paymentTakesAllThatThereIs() {
        PayScales office = Offices.ofPosts(2);
        office.note(0, HELD, 1, 0);
        office.pass(60);
        CHECK.due("run()", office.run(), 3);
        payment(office, 0, 0, 0, DAY);
        payment(office, 2, 1, 1, MONTH);
    }

    /** Promise 12: "NONE: none such": no other k, and no other what that a neighbour's row could answer. */
    private static void paymentRefuses() {
        PayScales office = Offices.ofPosts(2);
        CHECK.due("payment(0, 0) ahead of a run()", office.payment(0, 0), -1);
        office.pass(60);
        CHECK.due("payment(0, 0) still ahead of a run()", office.payment(0, 0), -1);
        CHECK.due("run()", office.run(), 4);
        Edges.onlyCells(CHECK, "payment", 4, 3, office::payment);
    }

    /** Promise 12: "of the latest run()": fewer than the one ahead had. */
    private static void paymentsOfTheLatestRun() {
        PayScales office = Offices.ofPosts(1);
        office.pass(90);
        CHECK.due("run()", office.run(), 3);
        office.note(0, HELD, 89, 0);
        CHECK.due("run() of one", office.run(), 1);
        payment(office, 0, 0, 2, -DAY);
        CHECK.due("payment(1, 0)", office.payment(1, 0), -1);
        CHECK.due("payment(2, 0)", office.payment(2, 0), -1);
        CHECK.due("run() of none", office.run(), 0);
        CHECK.due("payment(0, 0)", office.payment(0, 0), -1);
        CHECK.due("count(5)", office.count(5), 0);
    }

    /** Promises 12 and 13: what is told and asked behind a run() changes neither. */
    private static void paymentsAsTheyWereThen() {
        PayScales office = Offices.ofPosts(1);
        office.pass(30);
        office.run();
        office.note(0, HELD, 0, 0);
        Texts.agree(office, "plus a=99;", 0);
        office.pass(60);
        office.due(0, 0, 90);
        office.cost(0, 39, 90);
        payment(office, 0, 0, 0, MONTH);
        CHECK.due("paid(0, 0)", office.paid(0, 0), MONTH);
        CHECK.due("count(5)", office.count(5), 1);
    }

    /** Promise 13: "What was PAID for a MONTH": 0 at first, of the first and the last. */
    private static void paidOfEachMonth() {
        PayScales office = Offices.ofPosts(8);
        for (int post : new int[] {0, 7}) {
            CHECK.due("paid(" + post + ", 0)", office.paid(post, 0), 0);
            CHECK.due("paid(" + post + ", 39)", office.paid(post, 39), 0);
        }
        for (int post = 0; post < 8; post++) {
            office.note(post, HELD, 30 - post, 0);
        }
        office.pass(60);
        office.run();
        for (int post = 0; post < 8; post++) {
            CHECK.due("paid(" + post + ", 0)", office.paid(post, 0), MONTH - post * DAY);
            CHECK.due("paid(" + post + ", 1)", office.paid(post, 1), 0);
        }
    }

    /** Promise 13: "NONE: no such POST, MONTH": nor one that a neighbour's row could answer. */
    private static void paidRefuses() {
        PayScales office = Offices.ofPosts(2);
        office.pass(1199);
        office.run();
        for (int post : Edges.outside(0, 1)) {
            CHECK.due("paid(" + post + ", 0)", office.paid(post, 0), -1);
            CHECK.due("paid(" + post + ", 39)", office.paid(post, 39), -1);
        }
        for (int month : Edges.outside(0, 39)) {
            CHECK.due("paid(0, " + month + ")", office.paid(0, month), -1);
            CHECK.due("paid(1, " + month + ")", office.paid(1, month), -1);
        }
        CHECK.due("paid(7, 0) of two posts", office.paid(7, 0), -1);
    }

    /** Promise 19: "5 PAYMENTS of the latest run(), 6 run()s": one without PAYMENTS counts, too. */
    private static void countsOfRuns() {
        PayScales office = Offices.ofPosts(1);
        CHECK.due("count(5) ahead of a run()", office.count(5), 0);
        CHECK.due("count(6) ahead of a run()", office.count(6), 0);
        for (int run = 1; run <= 40; run++) {
            CHECK.due("run " + run, office.run(), run == 1 ? 0 : 1);
            CHECK.due("count(5)", office.count(5), run == 1 ? 0 : 1);
            CHECK.due("count(6)", office.count(6), run);
            office.pass(run < 40 ? 30 : 0);
        }
    }
}
