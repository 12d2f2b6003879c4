import java.util.ArrayList;
import java.util.List;
import java.util.function.ToLongFunction;

/** A question has one answer, whatever was asked ahead of it: every two questions, one behind the other. */
public final class OrderTest {
    private static final Check CHECK = new Check("OrderTest");
    private static final int TODAY = 95;
    /** An office answers 512 calls, some of which go into telling it all. */
    private static final int TWOS_OF_AN_OFFICE = 200;

    private final List<String> names = new ArrayList<>();
    private final List<ToLongFunction<PayScales>> questions = new ArrayList<>();

    private OrderTest() {
    }

    public static void main(String[] args) {
        OrderTest test = new OrderTest();
        test.collect();
        test.askInTwos();
        CHECK.end();
    }

    /** What is there on later days is not there on earlier ones; the amounts rise, then fall under protection. */
    private static PayScales office() {
        PayScales office = new PayScales();
        Texts.agree(office, "grade g from 0;scale g:1,2,9;step 10;gap 5;", 0);
        Texts.agree(office, "plus a=90;plus z=1%;test z B=0=3;", 30);
        Texts.agree(office, "test a A=0=10;plus a=50;grade a from 10;scale a:4;", 60);
        office.post(0);
        office.post(1);
        office.note(0, 6, 0, 1);
        office.note(0, 6, 80, 0);
        office.note(0, 8, 0, 1);
        office.note(0, 8, 60, 1);
        office.note(0, 7, 50, 13);
        office.note(1, 6, 5, 1);
        office.note(1, 1, 40, 1);
        office.pass(TODAY);
        Texts.agree(office, "plus a=95;end test z;step 5;", 35);
        office.note(1, 6, 0, 1);
        return office;
    }

    private void ask(String name, ToLongFunction<PayScales> question) {
        names.add(name);
        questions.add(question);
    }

    private void collect() {
        for (int post = 0; post < 2; post++) {
            int p = post;
            for (int day : new int[] {0, 34, 61, 100}) {
                ask("points", office -> office.look(p, day, TODAY, 9));
                ask("service", office -> office.look(p, day, TODAY, 11));
                ask("given", office -> office.look(p, day, TODAY, 15));
                ask("amount", office -> office.look(p, day, 0, 14));
                ask("pay", office -> office.pay(p, day, 0));
            }
            ask("due", office -> office.due(p, 0, TODAY));
            ask("due", office -> office.due(p, 2, 0));
        }
        ask("cost", office -> office.cost(0, 39, TODAY));
        ask("like", office -> office.like(0, 0, 5));
        ask("like", office -> office.like(70, TODAY, 5));
        ask("meet", office -> office.meet(0, 0));
        ask("meet", office -> office.meet(70, TODAY));
    }

    private void askInTwos() {
        long[] alone = new long[questions.size()];
        for (int i = 0; i < alone.length; i++) {
            alone[i] = questions.get(i).applyAsLong(office());
        }
        PayScales office = office();
        for (int both = 0; both < alone.length * alone.length; both++) {
            int first = both / alone.length;
            int then = both % alone.length;
            if (both % TWOS_OF_AN_OFFICE == 0) {
                office = office();
            }
            questions.get(first).applyAsLong(office);
            long got = questions.get(then).applyAsLong(office);
            CHECK.due(names.get(then) + " (" + then + ") behind " + names.get(first) + " (" + first + ")", got, alone[then]);
        }
    }
}
