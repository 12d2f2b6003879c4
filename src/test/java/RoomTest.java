import java.lang.management.ManagementFactory;

/** All calls live in one room that is never swept: questions make nothing, and an office stays small. */
public final class RoomTest {
    private static final Check CHECK = new Check("RoomTest");
    private static final com.sun.management.ThreadMXBean THREADS =
        (com.sun.management.ThreadMXBean) ManagementFactory.getThreadMXBean();

    private RoomTest() {
    }

    public static void main(String[] args) {
        for (int i = 0; i < 3; i++) {
            ask(fullOffice());
        }
        PayScales office = fullOffice();
        long before = THREADS.getCurrentThreadAllocatedBytes();
        ask(office);
        long asked = THREADS.getCurrentThreadAllocatedBytes() - before;
        CHECK.holds("questions make nothing, not " + asked + " bytes", asked < 1000);
        before = THREADS.getCurrentThreadAllocatedBytes();
        new PayScales();
        long made = THREADS.getCurrentThreadAllocatedBytes() - before;
        CHECK.holds("a new office takes at most 30000 bytes, not " + made, made < 30000);
        CHECK.end();
    }

    private static PayScales fullOffice() {
        PayScales office = new PayScales();
        for (int i = 0; i < 12; i++) {
            Texts.agree(office, "test a A>3=10;grade g from 0;scale g:1,2,3,4,5,6,7,8;step 1;gap 9;plus a=7%;", 10 * i);
        }
        for (int post = 0; post < 8; post++) {
            office.post(post);
            office.note(post, 6, 0, 1);
        }
        for (int i = 0; i < 192; i++) {
            office.note(i % 8, i % 9, 6 * i, 1);
        }
        office.pass(1199);
        return office;
    }

    private static void ask(PayScales office) {
        for (int i = 0; i < 26; i++) {
            office.look(i % 8, 1199, 1199, i % 16);
            office.pay(i % 8, 1199, 1199);
            office.due(i % 8, 39, 1199);
            office.cost(0, 39, 1199);
            office.run();
            office.payment(i, 2);
            office.like(1199, 1199, 99999);
            office.meet(1199, 1199);
        }
    }
}
