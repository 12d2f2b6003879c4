/** Promises 11 run, 12 payment, 13 paid. */
public final class RunTest {
    private static final Check CHECK = new Check("RunTest");
    private static final long MONTH = 30L * 840 * 1000;

    private RunTest() {
    }

    public static void main(String[] args) {
        monthsThatHaveEnded();
        justTheDifferences();
        byPostsThenMonths();
        everyMonthOfEightPosts();
        wrongInputs();
        CHECK.end();
    }

    private static void payment(PayScales office, int k, long post, long month, long sum) {
        Offices.payment(CHECK, office, k, post, month, sum);
    }

    private static void monthsThatHaveEnded() {
        PayScales office = Offices.ofPosts(1);
        CHECK.due("run() on day 0", office.run(), 0);
        office.pass(29);
        CHECK.due("run() on the month's last day", office.run(), 0);
        CHECK.due("paid(0, 0)", office.paid(0, 0), 0);
        office.pass(1);
        CHECK.due("run() behind it", office.run(), 1);
        payment(office, 0, 0, 0, MONTH);
        CHECK.due("paid(0, 0)", office.paid(0, 0), MONTH);
        CHECK.due("paid(0, 1)", office.paid(0, 1), 0);
        CHECK.due("run() again", office.run(), 0);
        CHECK.due("payment(0, 0) of the latest", office.payment(0, 0), -1);
        office.pass(1169);
        CHECK.due("run() on the last day", office.run(), 38);
        payment(office, 37, 0, 38, MONTH);
        CHECK.due("paid(0, 38)", office.paid(0, 38), MONTH);
        CHECK.due("paid(0, 39) never ends", office.paid(0, 39), 0);
        CHECK.due("count(6)", office.count(6), 5);
    }

    private static void justTheDifferences() {
        PayScales office = Offices.ofPosts(1);
        office.pass(90);
        CHECK.due("run()", office.run(), 3);
        office.note(0, 6, 45, 0);
        office.note(0, 6, 75, 1);
        CHECK.due("run() of less", office.run(), 2);
        payment(office, 0, 0, 1, -MONTH / 2);
        payment(office, 1, 0, 2, -MONTH / 2);
        CHECK.due("paid(0, 1)", office.paid(0, 1), MONTH / 2);
        Texts.agree(office, "plus a=20;", 30);
        CHECK.due("run() of more", office.run(), 2);
        payment(office, 0, 0, 1, MONTH / 2);
        CHECK.due("paid(0, 1)", office.paid(0, 1), MONTH);
        CHECK.due("paid(0, 0)", office.paid(0, 0), MONTH);
        office.note(0, 6, 0, 0);
        office.note(0, 6, 45, 0);
        office.note(0, 6, 75, 0);
        CHECK.due("run() of nothing held", office.run(), 3);
        CHECK.due("payment(2, 2)", office.payment(2, 2), -MONTH);
        CHECK.due("paid(0, 2)", office.paid(0, 2), 0);
    }

    private static void byPostsThenMonths() {
        PayScales office = Offices.ofPosts(3);
        office.note(1, 6, 0, 0);
        office.pass(65);
        CHECK.due("run()", office.run(), 4);
        payment(office, 0, 0, 0, MONTH);
        payment(office, 1, 0, 1, MONTH);
        payment(office, 2, 2, 0, MONTH);
        payment(office, 3, 2, 1, MONTH);
        CHECK.due("payment(4, 0)", office.payment(4, 0), -1);
        CHECK.due("count(5)", office.count(5), 4);
    }

    private static void everyMonthOfEightPosts() {
        PayScales office = Offices.ofPosts(8);
        office.pass(1199);
        CHECK.due("run()", office.run(), 8 * 39);
        payment(office, 8 * 39 - 1, 7, 38, MONTH);
        CHECK.due("payment(312, 0)", office.payment(312, 0), -1);
    }

    private static void wrongInputs() {
        PayScales office = Offices.ofPosts(1);
        office.pass(30);
        office.run();
        int[] odd = {-1, 3, Integer.MIN_VALUE, Integer.MAX_VALUE};
        for (int what : odd) {
            CHECK.due("payment(0, " + what + ")", office.payment(0, what), -1);
        }
        int[] none = {-1, 1, Integer.MIN_VALUE, Integer.MAX_VALUE};
        for (int k : none) {
            CHECK.due("payment(" + k + ", 0)", office.payment(k, 0), -1);
            CHECK.due("paid(" + k + ", 0)", office.paid(k, 0), -1);
        }
        CHECK.due("paid(0, -1)", office.paid(0, -1), -1);
        CHECK.due("paid(0, 40)", office.paid(0, 40), -1);
        CHECK.due("paid(0, 39)", office.paid(0, 39), 0);
    }
}
