import java.util.ArrayList;
import java.util.List;
import java.util.function.Consumer;

/**
 * What a refused call leaves as it was: of two offices that are told the same, one is asked what is to be
 * refused, and from then on both must answer alike.
 */
final class Twins {
    private static final int TODAY = 65;
    private static final int[] DAYS = {0, 31, TODAY, 1199};

    private final PayScales office;
    private final List<String> calls = new ArrayList<>();
    private final List<Long> answers = new ArrayList<>();

    private Twins(PayScales office) {
        this.office = office;
    }

    static void stayAlike(Check check, String what, Consumer<PayScales> told, Consumer<PayScales> refused) {
        PayScales asked = new PayScales();
        PayScales other = new PayScales();
        told.accept(asked);
        told.accept(other);
        refused.accept(asked);
        Twins got = new Twins(asked);
        Twins want = new Twins(other);
        got.askAll();
        want.askAll();
        for (int i = 0; i < want.answers.size(); i++) {
            check.due(want.calls.get(i) + " behind " + what, got.answers.get(i), want.answers.get(i));
        }
    }

    /** An office in which everything that a call could spoil is there: 3 posts, payments, pairs, a fault, a tape. */
    static void tellMuch(PayScales office) {
        Texts.agree(office, "test a A>0=10;grade g from 0;scale g:5,6,7;step 10;gap 3;plus a=1;plus b B=1=10%;", 0);
        Texts.agree(office, "plus a=2;gap 4;end plus z;", 31);
        Texts.agree(office, "gap 1;gap x;", 5);
        for (int post = 0; post < 3; post++) {
            office.post(post / 2);
            office.note(post, 6, 10 * post, 1);
            office.note(post, 0, 0, post);
        }
        office.note(1, 1, 20, 1);
        office.note(1, 7, 25, 23);
        office.note(1, 8, 40, 1);
        office.pass(TODAY);
        office.run();
        office.note(0, 6, 50, 0);
        office.like(30, TODAY, 99999);
        office.meet(40, TODAY);
        Texts.feed(office, "plus a=3; gap 7 ; scale g : 8 ; #");
    }

    private void askAll() {
        for (int what = 0; what <= 6; what++) {
            tell("count(" + what + ")", office.count(what));
        }
        tell("fault(0)", office.fault(0));
        tell("fault(1)", office.fault(1));
        tellRows();
        int posts = office.count(2);
        for (int post = 0; post < posts; post += Math.max(1, posts - 1)) {
            askPost(post);
        }
        tell("cost(0, 39, today)", office.cost(0, 39, office.count(0)));
        tell("run()", office.run());
        tell("like()", office.like(office.count(0), office.count(0), 5));
        tell("meet()", office.meet(office.count(0), office.count(0)));
        tellRows();
        askForMore();
    }

    private void tellRows() {
        for (int k = 0; k <= 2; k++) {
            for (int what = 0; what < 4; what++) {
                tell("payment(" + k + ", " + what + ")", office.payment(k, what));
                tell("pair(" + k + ", " + what + ")", office.pair(k, what));
                tell("met(" + k + ", " + what + ")", office.met(k, what));
            }
        }
    }

    private void askPost(int post) {
        int today = office.count(0);
        for (int day : DAYS) {
            for (int what = 0; what < 16; what++) {
                tell("look(" + post + ", " + day + ", today, " + what + ")", office.look(post, day, today, what));
            }
        }
        tell("pay(" + post + ", 31, today)", office.pay(post, 31, today));
        for (int month = 0; month < 4; month++) {
            tell("due(" + post + ", " + month + ", 0)", office.due(post, month, 0));
            tell("paid(" + post + ", " + month + ")", office.paid(post, month));
        }
    }

    /** What changes the office comes last; the tape is seen by its length and by the text that it makes. */
    private void askForMore() {
        tell("post(3)", office.post(3));
        tell("note(0, 3, 7, 8)", office.note(0, 3, 7, 8));
        int fed = office.feed(0x20202020, 0x20202020, 0x20202020, 0x20202020, 0x20202020);
        tell("feed(..)", fed);
        tell("agree(fed - 20, 3)", office.agree(fed - 20, 3));
        tell("its fault(0)", office.fault(0));
        tell("its fault(1)", office.fault(1));
        tell("its count(4)", office.count(4));
        tell("pass(1)", office.pass(1));
    }

    private void tell(String call, long answer) {
        calls.add(call);
        answers.add(answer);
    }
}
