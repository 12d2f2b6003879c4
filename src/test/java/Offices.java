/** Offices that several tests begin with. */
final class Offices {
    private static final int HELD = 6;

    private Offices() {
    }

    /** One post of person 0, and the text in force from day 0 on. */
    static PayScales ofText(Check check, String text) {
        PayScales office = new PayScales();
        office.post(0);
        check.due("agree of " + text, Texts.agree(office, text, 0), 0);
        return office;
    }

    /** So many posts, each of another person, held from day 0 on at 10 each. */
    static PayScales ofPosts(int posts) {
        PayScales office = new PayScales();
        Texts.agree(office, "plus a=10;", 0);
        for (int post = 0; post < posts; post++) {
            office.post(post);
            office.note(post, HELD, 0, 1);
        }
        return office;
    }

    static void payment(Check check, PayScales office, int k, long post, long month, long sum) {
        check.due("payment(" + k + ", 0)", office.payment(k, 0), post);
        check.due("payment(" + k + ", 1)", office.payment(k, 1), month);
        check.due("payment(" + k + ", 2)", office.payment(k, 2), sum);
    }
}
