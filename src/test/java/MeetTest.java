/** Promises 17 meet, 18 met. */
public final class MeetTest {
    private static final Check CHECK = new Check("MeetTest");

    private MeetTest() {
    }

    public static void main(String[] args) {
        keysThatMeet();
        bySortThenName();
        asItWasThen();
        wrongInputs();
        CHECK.end();
    }

    private static void met(PayScales office, int k, int sort, int name, int agreement, int lines) {
        CHECK.due("met(" + k + ", 0)", office.met(k, 0), sort);
        CHECK.due("met(" + k + ", 1)", office.met(k, 1), name);
        CHECK.due("met(" + k + ", 2)", office.met(k, 2), agreement);
        CHECK.due("met(" + k + ", 3)", office.met(k, 3), lines);
    }

    private static void keysThatMeet() {
        PayScales office = new PayScales();
        Texts.agree(office, "gap 1;plus b=1;plus a=1;", 10);
        CHECK.due("meet of one agreement", office.meet(10, 0), 0);
        Texts.agree(office, "gap 2;test b A<1=1;", 5);
        Texts.agree(office, "end plus b;gap 3;", 20);
        Texts.agree(office, "plus b=2;", 20);
        CHECK.due("meet(9, 0)", office.meet(9, 0), 0);
        CHECK.due("meet(10, 0)", office.meet(10, 0), 1);
        met(office, 0, 4, 0, 0, 2);
        CHECK.due("meet(19, 0)", office.meet(19, 0), 1);
        CHECK.due("meet(20, 0)", office.meet(20, 0), 2);
        met(office, 0, 4, 0, 2, 3);
        met(office, 1, 5, 1, 3, 3);
        CHECK.due("met(2, 0)", office.met(2, 0), -1);
        CHECK.due("meet(1199, 0)", office.meet(1199, 0), 2);
    }

    private static void bySortThenName() {
        PayScales office = new PayScales();
        String text = "plus z=1;plus a=1;gap 1;step 1;scale c:1;scale b:1;grade y from 1;test x A<1=1;test a A<1=1;";
        Texts.agree(office, text, 0);
        Texts.agree(office, text, 0);
        CHECK.due("meet(0, 0)", office.meet(0, 0), 9);
        int[][] due = {{0, 0}, {0, 23}, {1, 24}, {2, 1}, {2, 2}, {3, 0}, {4, 0}, {5, 0}, {5, 25}};
        for (int k = 0; k < due.length; k++) {
            met(office, k, due[k][0], due[k][1], 1, 2);
        }
    }

    private static void asItWasThen() {
        PayScales office = new PayScales();
        Texts.agree(office, "gap 1;", 0);
        Texts.agree(office, "gap 1;", 0);
        CHECK.due("meet(0, 0)", office.meet(0, 0), 1);
        office.pass(3);
        Texts.agree(office, "gap 1;", 0);
        office.post(0);
        office.look(0, 100, 3, 14);
        met(office, 0, 4, 0, 1, 2);
        CHECK.due("meet of a wrong day", office.meet(1200, 0), -1);
        met(office, 0, 4, 0, 1, 2);
        CHECK.due("meet(0, 2)", office.meet(0, 2), 1);
        met(office, 0, 4, 0, 1, 2);
        CHECK.due("meet(0, 3)", office.meet(0, 3), 1);
        met(office, 0, 4, 0, 2, 3);
    }

    private static void wrongInputs() {
        PayScales office = new PayScales();
        Texts.agree(office, "gap 1;", 0);
        Texts.agree(office, "gap 1;", 0);
        int[][] refused = {{-1, 0}, {1200, 0}, {0, -1}, {0, 1}, {Integer.MIN_VALUE, 0}, {0, Integer.MAX_VALUE}};
        for (int[] row : refused) {
            CHECK.due("meet" + java.util.Arrays.toString(row), office.meet(row[0], row[1]), -1);
        }
        CHECK.due("met ahead of a meet", office.met(0, 0), -1);
        CHECK.due("meet(0, 0)", office.meet(0, 0), 1);
        int[] odd = {-1, 4, Integer.MIN_VALUE, Integer.MAX_VALUE};
        for (int what : odd) {
            CHECK.due("met(0, " + what + ")", office.met(0, what), -1);
            CHECK.due("met(" + what + ", 0)", office.met(what, 0), -1);
        }
        CHECK.due("met(1, 0)", office.met(1, 0), -1);
    }
}
