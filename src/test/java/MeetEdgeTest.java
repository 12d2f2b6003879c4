/** The edges of MEET in Terms 3, and of promises 17 meet, 18 met: a test for each sentence that names one. */
public final class MeetEdgeTest {
    private static final Check CHECK = new Check("MeetEdgeTest");
    private static final String[] ENDS = {"end test ", "end grade ", "end scale ", "end plus "};
    private static final int[] SORTS_OF_ENDS = {0, 1, 2, 5};

    private MeetEdgeTest() {
    }

    public static void main(String[] args) {
        moreThanOneLine();
        linesThatAreInForce();
        linesAsKnown();
        endsAreLinesToo();
        keysOfEverySort();
        allKeysMeet();
        allAgreementsMeet();
        theOneThatWins();
        meetTakesAllThatThereIs();
        meetRefuses();
        meetThatIsRefusedLeavesAll();
        metRefuses();
        metOfTheLatestMeet();
        metAsItWasThen();
        CHECK.end();
    }

    /** An agreement for each row of a day and a text, from that day on. */
    private static PayScales office(Object[]... rows) {
        PayScales office = new PayScales();
        for (int i = 0; i < rows.length; i++) {
            CHECK.due("agree of " + rows[i][1], Texts.agree(office, (String) rows[i][1], (Integer) rows[i][0]), i);
        }
        return office;
    }

    private static void met(PayScales office, int k, int... row) {
        for (int what = 0; what < 4; what++) {
            CHECK.due("met(" + k + ", " + what + ")", office.met(k, what), row[what]);
        }
    }

    /** Terms 3: "KEYS of which more than one LINE is in force": none, one, two. */
    private static void moreThanOneLine() {
        PayScales office = new PayScales();
        CHECK.due("meet of no agreement", office.meet(0, 0), 0);
        Texts.agree(office, "gap 1;step 1;plus a=1;plus b=1;test a A<1=1;", 0);
        CHECK.due("meet of one agreement", office.meet(0, 0), 0);
        Texts.agree(office, "grade a from 1;plus c=1;test b A<1=1;", 0);
        CHECK.due("meet of other keys", office.meet(0, 0), 0);
        Texts.agree(office, "plus b=1;", 0);
        CHECK.due("meet of two lines", office.meet(0, 0), 1);
        met(office, 0, 5, 1, 2, 2);
    }

    /** Terms 3: "is in force": from the later of their DAYS on. */
    private static void linesThatAreInForce() {
        PayScales office = office(new Object[] {10, "gap 1;"}, new Object[] {20, "gap 2;"}, new Object[] {1199, "gap 3;"});
        int[][] due = {{0, 0}, {10, 0}, {19, 0}, {20, 1}, {1198, 1}, {1199, 1}};
        for (int[] row : due) {
            CHECK.due("meet on day " + row[0], office.meet(row[0], 0), row[1]);
        }
        met(office, 0, 4, 0, 2, 3);
        office.meet(1198, 0);
        met(office, 0, 4, 0, 1, 2);
    }

    /** Promise 17: as KNOWN on the DAY of the telling, and on the one ahead of it. */
    private static void linesAsKnown() {
        PayScales office = office(new Object[] {0, "gap 1;"});
        office.pass(5);
        Texts.agree(office, "gap 2;", 0);
        office.pass(5);
        CHECK.due("meet known on day 4", office.meet(0, 4), 0);
        CHECK.due("meet known on day 5", office.meet(0, 5), 1);
        CHECK.due("meet known on day 10", office.meet(0, 10), 1);
    }

    /** Terms 1: "an end has the KEY of what it ends": it is a LINE that is in force, and may WIN. */
    private static void endsAreLinesToo() {
        for (int i = 0; i < ENDS.length; i++) {
            PayScales office = office(new Object[] {0, ENDS[i] + "k;"}, new Object[] {0, ENDS[i] + "k;"});
            CHECK.due("meet of two ends", office.meet(0, 0), 1);
            met(office, 0, SORTS_OF_ENDS[i], 10, 1, 2);
        }
        PayScales office = office(new Object[] {0, "plus z=1;"}, new Object[] {3, "end plus z;"});
        CHECK.due("meet(2, 0)", office.meet(2, 0), 0);
        CHECK.due("meet(3, 0)", office.meet(3, 0), 1);
        met(office, 0, 5, 25, 1, 2);
    }

    /** Terms 1: "KEYS: sort (0 test, .. 5 plus) and NAME (step, gap: a)"; promise 18: "by sort, then NAME". */
    private static void keysOfEverySort() {
        String text = "plus z=1;plus a=1;gap 1;step 1;scale z:1;scale a:1;grade z from 1;grade a from 1;test z A<1=1;test a A<1=1;";
        PayScales office = office(new Object[] {0, text}, new Object[] {0, text});
        CHECK.due("meet(0, 0)", office.meet(0, 0), 10);
        int[][] due = {{0, 0}, {0, 25}, {1, 0}, {1, 25}, {2, 0}, {2, 25}, {3, 0}, {4, 0}, {5, 0}, {5, 25}};
        for (int k = 0; k < due.length; k++) {
            met(office, k, due[k][0], due[k][1], 1, 2);
        }
    }

    /** Promise 17: the most KEYS that there are. */
    private static void allKeysMeet() {
        PayScales office = new PayScales();
        for (int twice = 0; twice < 2; twice++) {
            Texts.agree(office, "step 1;gap 1;", twice);
            for (String end : ENDS) {
                StringBuilder text = new StringBuilder();
                for (char name = 'a'; name <= 'z'; name++) {
                    text.append(end).append(name).append(';');
                }
                Texts.agree(office, text.toString(), twice);
            }
        }
        CHECK.due("count(4)", office.count(4), 2 * (4 * 26 + 2));
        CHECK.due("meet on day 0", office.meet(0, 0), 0);
        CHECK.due("meet on day 1", office.meet(1, 0), 4 * 26 + 2);
        met(office, 0, 0, 0, 6, 2);
        met(office, 77, 2, 25, 8, 2);
        met(office, 78, 3, 0, 5, 2);
        met(office, 79, 4, 0, 5, 2);
        met(office, 80, 5, 0, 9, 2);
        met(office, 105, 5, 25, 9, 2);
        CHECK.due("met(106, 0)", office.met(106, 0), -1);
    }

    /** Promise 18: "how many LINES are in force": the most. */
    private static void allAgreementsMeet() {
        PayScales office = new PayScales();
        for (int number = 0; number < 12; number++) {
            Texts.agree(office, "gap " + number + ";", 100 * number);
        }
        for (int number = 1; number < 12; number++) {
            CHECK.due("meet of " + (number + 1), office.meet(100 * number, 0), 1);
            met(office, 0, 4, 0, number, number + 1);
        }
    }

    /** Promise 18: "the AGREEMENT whose LINE WINS": the latest FROM, of several the one taken latest. */
    private static void theOneThatWins() {
        PayScales office = office(new Object[] {20, "gap 1;"}, new Object[] {20, "gap 2;"}, new Object[] {10, "gap 3;"},
            new Object[] {10, "gap 4;"}, new Object[] {15, "plus a=1;"});
        office.meet(19, 0);
        met(office, 0, 4, 0, 3, 2);
        office.meet(20, 0);
        met(office, 0, 4, 0, 1, 4);
    }

    /** Promise 17: the first and the last DAY, KNOWN up to TODAY. */
    private static void meetTakesAllThatThereIs() {
        PayScales office = office(new Object[] {0, "gap 1;"}, new Object[] {0, "gap 2;"});
        office.pass(1199);
        for (int day : new int[] {0, 1199}) {
            CHECK.due("meet(" + day + ", 0)", office.meet(day, 0), 1);
            CHECK.due("meet(" + day + ", 1199)", office.meet(day, 1199), 1);
        }
    }

    private static void refuseAll(PayScales office, int today) {
        for (int day : Edges.outside(0, 1199)) {
            CHECK.due("meet on day " + day, office.meet(day, 0), -1);
        }
        for (int known : Edges.outside(0, today)) {
            CHECK.due("meet known on " + known, office.meet(0, known), -1);
        }
    }

    /** Promise 17: "NONE: no such DAYS". */
    private static void meetRefuses() {
        refuseAll(new PayScales(), 0);
        PayScales office = office(new Object[] {0, "gap 1;"}, new Object[] {0, "gap 2;"});
        office.pass(9);
        refuseAll(office, 9);
        CHECK.due("met(0, 0) ahead of a meet()", office.met(0, 0), -1);
    }

    /** Promise 18: "the latest meet() that was not NONE". */
    private static void meetThatIsRefusedLeavesAll() {
        Twins.stayAlike(CHECK, "meet() that was NONE", Twins::tellMuch, office -> refuseAll(office, 65));
    }

    /** Promise 18: "NONE: none such": no other k, and no other what that a neighbour's row could answer. */
    private static void metRefuses() {
        String text = "gap 1;step 1;plus b=1;";
        PayScales office = office(new Object[] {0, text}, new Object[] {0, text});
        CHECK.due("met(0, 0) ahead of a meet()", office.met(0, 0), -1);
        CHECK.due("meet(0, 0)", office.meet(0, 0), 3);
        Edges.onlyCells(CHECK, "met", 3, 4, office::met);
    }

    /** Promise 18: "of the latest meet()": fewer than the one ahead had. */
    private static void metOfTheLatestMeet() {
        PayScales office = office(new Object[] {0, "gap 1;step 1;"}, new Object[] {5, "step 1;"}, new Object[] {9, "gap 2;"});
        CHECK.due("meet(9, 0)", office.meet(9, 0), 2);
        met(office, 0, 3, 0, 1, 2);
        met(office, 1, 4, 0, 2, 2);
        CHECK.due("meet(8, 0)", office.meet(8, 0), 1);
        met(office, 0, 3, 0, 1, 2);
        CHECK.due("met(1, 0)", office.met(1, 0), -1);
        CHECK.due("meet(4, 0)", office.meet(4, 0), 0);
        CHECK.due("met(0, 0)", office.met(0, 0), -1);
    }

    /** Promise 18: "as it was then". */
    private static void metAsItWasThen() {
        PayScales office = office(new Object[] {0, "gap 1;"}, new Object[] {0, "gap 2;"});
        CHECK.due("meet(0, 0)", office.meet(0, 0), 1);
        office.pass(40);
        Texts.agree(office, "gap 3;step 1;", 0);
        office.post(0);
        office.note(0, 6, 0, 1);
        office.run();
        office.like(0, 40, 0);
        office.look(0, 100, 40, 14);
        office.cost(0, 39, 40);
        met(office, 0, 4, 0, 1, 2);
        CHECK.due("meet on a day too late", office.meet(1200, 40), -1);
        CHECK.due("meet known tomorrow", office.meet(0, 41), -1);
        met(office, 0, 4, 0, 1, 2);
        CHECK.due("met(1, 0)", office.met(1, 0), -1);
    }
}
