/** The edges of Terms 1 and 2, from the LINE that WINS to the AMOUNT: a test for each sentence that names one. */
public final class WorthEdgeTest {
    private static final Check CHECK = new Check("WorthEdgeTest");
    private static final int HELD = 6;
    private static final int POINTS = 9;
    private static final int GRADE = 10;
    private static final int SERVICE = 11;
    private static final int STEP = 12;
    private static final int BASE = 13;
    private static final int AMOUNT = 14;
    private static final String SCALES = "grade g from 0;scale g:10,20,30,40,50,60,70,80;";

    private WorthEdgeTest() {
    }

    public static void main(String[] args) {
        anAgreementIsInForceFromItsDayOn();
        aLaterAgreementMayBeInForceEarlier();
        theLatestFromWins();
        ofSeveralTheAgreementTakenLatest();
        anEndThatWins();
        anEndThatDoesNotWin();
        aFactHolds();
        eachFactForItself();
        pointsOfNoTest();
        theMostPoints();
        aGradeIsNotAboveThePoints();
        theGreatestGrade();
        ofSeveralGradesTheFirstByName();
        noGrade();
        serviceOnDay0();
        serviceBehindEachDay();
        serviceByAnyPostOfThePerson();
        serviceWithoutAGap();
        serviceUpToTheGap();
        serviceOfTheGreatestGap();
        serviceOfDaysThatComeTogether();
        serviceByTheGapOfThatDay();
        stepWithoutAStep();
        stepOfOneDay();
        stepOfTheMostDays();
        stepIsTheScalesLastAtMost();
        stepOfTheDayAsked();
        noScale();
        plusWithoutAFact();
        plusOfAFact();
        percentOfTheBase();
        theGreatestAmount();
        ofPostsThatAreNotHeld();
        CHECK.end();
    }

    private static PayScales office(String text) {
        return Offices.ofText(CHECK, text);
    }

    private static void look(PayScales office, int day, int what, long want) {
        CHECK.due("look(0, " + day + ", today, " + what + ")", office.look(0, day, office.count(0), what), want);
    }

    /** HELD from the first of two days to the day ahead of the second. */
    private static void hold(PayScales office, int post, int first, int end) {
        office.note(post, HELD, first, 1);
        office.note(post, HELD, end, 0);
    }

    /** Terms 1: "in force from a told DAY (its FROM) on". */
    private static void anAgreementIsInForceFromItsDayOn() {
        for (int from : new int[] {1, 30, 1199}) {
            PayScales office = new PayScales();
            office.post(0);
            Texts.agree(office, "plus a=1;test a A=0=1;" + SCALES, from);
            look(office, from - 1, AMOUNT, 0);
            look(office, from - 1, POINTS, 0);
            look(office, from - 1, GRADE, -1);
            look(office, from, AMOUNT, 1100);
            look(office, from, POINTS, 1);
            look(office, 1199, AMOUNT, 1100);
            look(office, from - 1, AMOUNT, 0);
            look(office, from - 1, POINTS, 0);
        }
    }

    /** Terms 1: "in force from a told DAY (its FROM) on": told last, in force first. */
    private static void aLaterAgreementMayBeInForceEarlier() {
        PayScales office = new PayScales();
        office.post(0);
        Texts.agree(office, "plus a=3;plus c=100;", 30);
        Texts.agree(office, "plus a=2;", 20);
        Texts.agree(office, "plus a=1;plus b=10;", 10);
        int[][] due = {{9, 0}, {10, 1100}, {19, 1100}, {20, 1200}, {29, 1200}, {30, 11300}, {1199, 11300}};
        for (int[] row : due) {
            look(office, row[0], AMOUNT, row[1]);
        }
    }

    /** Terms 1: "the one with the latest FROM WINS", whenever it was taken. */
    private static void theLatestFromWins() {
        PayScales office = office("plus a=1;");
        Texts.agree(office, "plus a=3;", 11);
        Texts.agree(office, "plus a=2;", 10);
        office.pass(20);
        Texts.agree(office, "plus a=4;", 9);
        int[] due = {100, 400, 200, 300};
        for (int day = 8; day <= 11; day++) {
            look(office, day, AMOUNT, due[day - 8]);
        }
        look(office, 1199, AMOUNT, 300);
    }

    /** Terms 1: "of several that of the AGREEMENT taken latest". */
    private static void ofSeveralTheAgreementTakenLatest() {
        PayScales office = office("plus a=1;plus b=10;");
        Texts.agree(office, "plus a=2;", 0);
        look(office, 0, AMOUNT, 1200);
        office.pass(1);
        Texts.agree(office, "plus a=3;", 0);
        look(office, 0, AMOUNT, 1300);
        CHECK.due("as known ahead of it", office.look(0, 0, 0, AMOUNT), 1200);
        Texts.agree(office, "plus a=4;", 0);
        look(office, 0, AMOUNT, 1400);
        Texts.agree(office, "", 0);
        look(office, 0, AMOUNT, 1400);
    }

    /** Terms 1: "An end that WINS: there is none". */
    private static void anEndThatWins() {
        PayScales office = office("test a A=0=5;grade g from 0;scale g:7;plus a=1;");
        Texts.agree(office, "end test a;end plus a;", 10);
        Texts.agree(office, "end scale g;", 20);
        Texts.agree(office, "end grade g;", 30);
        int[][] due = {{9, 5, 6, 0, 7, 800}, {10, 0, 6, 0, 7, 700}, {19, 0, 6, 0, 7, 700}, {20, 0, 6, -1, 0, 0},
            {29, 0, 6, -1, 0, 0}, {30, 0, -1, -1, 0, 0}, {1199, 0, -1, -1, 0, 0}};
        for (int[] row : due) {
            look(office, row[0], POINTS, row[1]);
            look(office, row[0], GRADE, row[2]);
            look(office, row[0], STEP, row[3]);
            look(office, row[0], BASE, row[4]);
            look(office, row[0], AMOUNT, row[5]);
        }
        PayScales same = office("plus a=1;");
        Texts.agree(same, "end plus a;", 0);
        look(same, 0, AMOUNT, 0);
    }

    /** Terms 1: "An end that WINS": one that does not ends nothing, nor does one of what there is not. */
    private static void anEndThatDoesNotWin() {
        PayScales office = office("end plus a;end plus b;end test a;");
        look(office, 0, AMOUNT, 0);
        Texts.agree(office, "plus a=1;", 0);
        look(office, 0, AMOUNT, 100);
        Texts.agree(office, "plus a=2;", 10);
        Texts.agree(office, "end plus a;", 5);
        look(office, 4, AMOUNT, 100);
        look(office, 5, AMOUNT, 0);
        look(office, 9, AMOUNT, 0);
        look(office, 10, AMOUNT, 200);
    }

    /** Terms 1: "R: < > ="; Terms 2: "whose FACT holds": one below, the same, one above. */
    private static void aFactHolds() {
        for (int n : new int[] {0, 1, 5, 9998, 9999}) {
            PayScales office = office("test a A<" + n + "=1;test b A=" + n + "=10;test c A>" + n + "=100;"
                + "plus a A<" + n + "=2;plus b A=" + n + "=20;plus c A>" + n + "=200;");
            int[] values = {-9999, -n, n - 1, n, n + 1, 9999};
            for (int v : values) {
                if (v <= 9999) {
                    int due = v < n ? 1 : v == n ? 10 : 100;
                    office.note(0, 0, 0, v);
                    look(office, 0, POINTS, due);
                    look(office, 0, AMOUNT, 200 * due);
                }
            }
        }
    }

    /** Terms 2: "FACTS A .. F": a line asks for its own. */
    private static void eachFactForItself() {
        StringBuilder text = new StringBuilder();
        for (int fact = 0; fact < 6; fact++) {
            String condition = " " + (char) ('a' + fact) + " " + (char) ('A' + fact) + "=" + (fact + 1) + "=" + (1 << fact) + ";";
            text.append("test").append(condition).append("plus").append(condition);
        }
        PayScales office = office(text.toString());
        for (int fact = 0; fact < 6; fact++) {
            office.note(0, fact, fact, fact + 1);
            look(office, fact, POINTS, (2 << fact) - 1);
            look(office, fact, AMOUNT, 100 * ((2 << fact) - 1));
        }
    }

    /** Terms 2: "POINTS: the sum of the tests' whose FACT holds": of none. */
    private static void pointsOfNoTest() {
        look(office(""), 0, POINTS, 0);
        look(office("test a A>0=5;test b B<0=5;"), 0, POINTS, 0);
        look(office("test a A=0=0;"), 0, POINTS, 0);
    }

    /** Terms 2: "POINTS: the sum": of 26 tests. */
    private static void theMostPoints() {
        StringBuilder text = new StringBuilder("grade b from 9999;");
        for (char name = 'a'; name <= 'z'; name++) {
            text.append("test ").append(name).append(" A=0=9999;");
        }
        PayScales office = office(text.toString());
        look(office, 0, POINTS, 26 * 9999);
        look(office, 0, GRADE, 1);
        office.note(0, 0, 1, 1);
        look(office, 1, POINTS, 0);
        look(office, 1, GRADE, -1);
    }

    /** Terms 2: "GRADE: of those whose 'from' is not above the POINTS". */
    private static void aGradeIsNotAboveThePoints() {
        PayScales office = office("test a A>0=1;test b A>1=9998;grade c from 0;grade b from 1;grade a from 9999;");
        int[] grades = {2, 1, 0};
        int[] points = {0, 1, 9999};
        for (int v = 0; v <= 2; v++) {
            office.note(0, 0, 0, v);
            look(office, 0, POINTS, points[v]);
            look(office, 0, GRADE, grades[v]);
        }
        PayScales below = office("test a A=0=9998;grade a from 9999;");
        look(below, 0, GRADE, -1);
    }

    /** Terms 2: "the one with the greatest". */
    private static void theGreatestGrade() {
        look(office("test a A=0=10;grade a from 3;grade b from 7;grade c from 5;grade d from 11;"), 0, GRADE, 1);
        look(office("test a A=0=10;grade z from 10;grade a from 9;"), 0, GRADE, 25);
        look(office("test a A=0=10;grade a from 0;grade b from 1;"), 0, GRADE, 1);
    }

    /** Terms 2: "of several the first by its NAME", not by its place in a text nor by its AGREEMENT. */
    private static void ofSeveralGradesTheFirstByName() {
        look(office("grade z from 0;grade y from 0;"), 0, GRADE, 24);
        look(office("grade y from 0;grade z from 0;"), 0, GRADE, 24);
        PayScales office = office("grade z from 0;");
        Texts.agree(office, "grade b from 0;", 5);
        Texts.agree(office, "grade c from 0;", 9);
        look(office, 4, GRADE, 25);
        look(office, 5, GRADE, 1);
        look(office, 9, GRADE, 1);
        Texts.agree(office, "end grade b;", 10);
        look(office, 10, GRADE, 2);
    }

    /** Promise 8: "GRADE (.. NONE)"; Terms 2: "(0 without GRADE, scale)". */
    private static void noGrade() {
        PayScales office = office("scale a:5;scale g:6;grade a from 1;plus a=50%;plus b=3;");
        look(office, 0, GRADE, -1);
        look(office, 0, STEP, -1);
        look(office, 0, BASE, 0);
        look(office, 0, AMOUNT, 300);
    }

    /** Terms 2: "SERVICE of a person: 0 on DAY 0". */
    private static void serviceOnDay0() {
        PayScales office = office("gap 9999;");
        office.note(0, HELD, 0, 1);
        look(office, 0, SERVICE, 0);
        look(office, 1, SERVICE, 1);
    }

    /** Terms 2: "behind each DAY one more, if they HELD a POST on it". */
    private static void serviceBehindEachDay() {
        PayScales office = office("gap 9999;");
        hold(office, 0, 10, 11);
        int[][] one = {{9, 0}, {10, 0}, {11, 1}, {12, 1}, {1199, 1}};
        for (int[] row : one) {
            look(office, row[0], SERVICE, row[1]);
        }
        PayScales always = office("");
        always.note(0, HELD, 0, 1);
        look(always, 1199, SERVICE, 1199);
        PayScales last = office("");
        last.note(0, HELD, 1198, 1);
        look(last, 1198, SERVICE, 0);
        look(last, 1199, SERVICE, 1);
    }

    /** Terms 2: "if they HELD a POST": any one of the person's, and one more even if they held several. */
    private static void serviceByAnyPostOfThePerson() {
        PayScales office = new PayScales();
        for (int post = 0; post < 8; post++) {
            office.post(post == 3 ? 6 : 7);
        }
        hold(office, 7, 0, 10);
        hold(office, 0, 5, 20);
        hold(office, 3, 20, 30);
        int[][] due = {{5, 5}, {10, 10}, {20, 20}, {21, 0}, {30, 0}};
        for (int[] row : due) {
            CHECK.due("service of 7 by post 0", office.look(0, row[0], 0, SERVICE), row[1]);
            CHECK.due("service of 7 by post 7", office.look(7, row[0], 0, SERVICE), row[1]);
            CHECK.due("service of 7 by post 4", office.look(4, row[0], 0, SERVICE), row[1]);
        }
        CHECK.due("service of 6 on day 20", office.look(3, 20, 0, SERVICE), 0);
        CHECK.due("service of 6 on day 30", office.look(3, 30, 0, SERVICE), 10);
        CHECK.due("service of 6 on day 31", office.look(3, 31, 0, SERVICE), 0);
    }

    /** Terms 2: "the gap of that DAY (none: 0)". */
    private static void serviceWithoutAGap() {
        for (String text : new String[] {"", "gap 0;", "step 3;"}) {
            PayScales office = office(text);
            hold(office, 0, 0, 7);
            office.note(0, HELD, 8, 1);
            look(office, 7, SERVICE, 7);
            look(office, 8, SERVICE, 0);
            look(office, 9, SERVICE, 1);
        }
    }

    /** Terms 2: "if so many DAYS without one have come together as are above the gap". */
    private static void serviceUpToTheGap() {
        for (int gap : new int[] {1, 2, 30, 400}) {
            PayScales back = office("gap " + gap + ";");
            hold(back, 0, 0, 10);
            back.note(0, HELD, 10 + gap, 1);
            look(back, 10 + gap, SERVICE, 10);
            look(back, 11 + gap, SERVICE, 11);
            PayScales late = office("gap " + gap + ";");
            hold(late, 0, 0, 10);
            late.note(0, HELD, 11 + gap, 1);
            look(late, 10 + gap, SERVICE, 10);
            look(late, 11 + gap, SERVICE, 0);
            look(late, 12 + gap, SERVICE, 1);
        }
    }

    /** Terms 2: a gap that never is too short. */
    private static void serviceOfTheGreatestGap() {
        PayScales office = office("gap 9999;");
        hold(office, 0, 0, 1);
        look(office, 1199, SERVICE, 1);
        PayScales most = office("gap 1198;");
        hold(most, 0, 0, 1);
        look(most, 1199, SERVICE, 1);
        PayScales less = office("gap 1197;");
        hold(less, 0, 0, 1);
        look(less, 1198, SERVICE, 1);
        look(less, 1199, SERVICE, 0);
    }

    /** Terms 2: "have come together": a DAY with a POST between them begins anew. */
    private static void serviceOfDaysThatComeTogether() {
        PayScales office = office("gap 3;");
        hold(office, 0, 0, 10);
        hold(office, 0, 13, 14);
        hold(office, 0, 17, 18);
        int[][] due = {{10, 10}, {13, 10}, {14, 11}, {17, 11}, {18, 12}, {21, 12}, {22, 0}};
        for (int[] row : due) {
            look(office, row[0], SERVICE, row[1]);
        }
    }

    /** Terms 2: "the gap of that DAY": not that of the DAY asked, nor of the first one without. */
    private static void serviceByTheGapOfThatDay() {
        PayScales shrinks = office("gap 9;");
        hold(shrinks, 0, 0, 10);
        Texts.agree(shrinks, "gap 2;", 14);
        look(shrinks, 14, SERVICE, 10);
        look(shrinks, 15, SERVICE, 0);
        PayScales grows = office("gap 2;");
        hold(grows, 0, 0, 10);
        Texts.agree(grows, "gap 9;", 12);
        look(grows, 12, SERVICE, 10);
        look(grows, 13, SERVICE, 10);
        look(grows, 19, SERVICE, 10);
        look(grows, 20, SERVICE, 0);
        PayScales late = office("gap 2;");
        hold(late, 0, 0, 10);
        Texts.agree(late, "gap 9;", 13);
        look(late, 12, SERVICE, 10);
        look(late, 13, SERVICE, 0);
    }

    private static void steps(PayScales office, int[][] due) {
        for (int[] row : due) {
            look(office, row[0], STEP, row[1]);
            look(office, row[0], BASE, 10 * (row[1] + 1));
        }
    }

    /** Terms 2: "STEP: SERVICE by the step .. (none: 360), cut". */
    private static void stepWithoutAStep() {
        PayScales office = office(SCALES);
        office.note(0, HELD, 0, 1);
        steps(office, new int[][] {{0, 0}, {359, 0}, {360, 1}, {719, 1}, {720, 2}, {1079, 2}, {1080, 3}, {1199, 3}});
    }

    /** Terms 2: "STEP: SERVICE by the step", the least. */
    private static void stepOfOneDay() {
        PayScales office = office(SCALES + "step 1;");
        office.note(0, HELD, 0, 1);
        steps(office, new int[][] {{0, 0}, {1, 1}, {2, 2}, {6, 6}, {7, 7}, {8, 7}, {1199, 7}});
    }

    /** Terms 2: "STEP: SERVICE by the step", the greatest, and those that the last day just reaches. */
    private static void stepOfTheMostDays() {
        for (int days : new int[] {1198, 1199, 1200, 9999}) {
            PayScales office = office(SCALES + "step " + days + ";");
            office.note(0, HELD, 0, 1);
            steps(office, new int[][] {{0, 0}, {1197, 0}, {1198, 1198 / days}, {1199, 1199 / days}});
        }
    }

    /** Terms 2: "at most the scale's last". */
    private static void stepIsTheScalesLastAtMost() {
        StringBuilder scale = new StringBuilder("grade g from 0;step 5;scale g:10");
        for (int length = 1; length <= 8; length++) {
            PayScales office = office(scale + ";");
            office.note(0, HELD, 0, 1);
            int last = length - 1;
            steps(office, new int[][] {{5 * last, last}, {5 * length, last}, {5 * length + 5, last}, {1199, last}});
            if (last > 0) {
                steps(office, new int[][] {{5 * last - 1, last - 1}});
            }
            scale.append(',').append(10 * (length + 1));
        }
    }

    /** Terms 2: "the step of the DAY asked", whatever it was ahead of it. */
    private static void stepOfTheDayAsked() {
        PayScales office = office(SCALES + "step 100;");
        office.note(0, HELD, 0, 1);
        Texts.agree(office, "step 10;", 50);
        Texts.agree(office, "step 1000;", 60);
        steps(office, new int[][] {{49, 0}, {50, 5}, {59, 5}, {60, 0}, {999, 0}, {1000, 1}});
    }

    /** Promise 8: "STEP (NONE without a scale)"; Terms 2: "(0 without GRADE, scale)". */
    private static void noScale() {
        PayScales office = office("grade g from 0;scale f:5;scale h:6;plus a=9%;plus b=2;");
        office.note(0, HELD, 0, 1);
        look(office, 400, GRADE, 6);
        look(office, 400, STEP, -1);
        look(office, 400, BASE, 0);
        look(office, 400, AMOUNT, 200);
        Texts.agree(office, "scale g:0;", 0);
        look(office, 400, STEP, 0);
        look(office, 400, BASE, 0);
    }

    /** Terms 2: "PLUS: for each plus (.. without one) N whole ones". */
    private static void plusWithoutAFact() {
        look(office(""), 0, AMOUNT, 0);
        look(office("plus a=0;"), 0, AMOUNT, 0);
        look(office("plus a=1;"), 0, AMOUNT, 100);
        look(office("plus z=9999;"), 0, AMOUNT, 999900);
        look(office("plus a=1000;plus z=2;"), 0, AMOUNT, 100200);
    }

    /** Terms 2: "for each plus (of a FACT that holds ..)". */
    private static void plusOfAFact() {
        PayScales office = office("grade g from 0;scale g:100;plus a F>4=3;plus b F<5=40%;");
        office.note(0, 5, 0, 4);
        look(office, 0, AMOUNT, 10000 + 4000);
        office.note(0, 5, 0, 5);
        look(office, 0, AMOUNT, 10000 + 300);
    }

    /** Terms 2: "with % BASE times N hundredths". */
    private static void percentOfTheBase() {
        look(office("plus a=999%;"), 0, AMOUNT, 0);
        look(office("grade g from 0;scale g:0;plus a=999%;"), 0, AMOUNT, 0);
        look(office("grade g from 0;scale g:1;plus a=0%;"), 0, AMOUNT, 100);
        look(office("grade g from 0;scale g:1;plus a=1%;"), 0, AMOUNT, 101);
        look(office("grade g from 0;scale g:3;plus a=7%;plus b=50;"), 0, AMOUNT, 300 + 21 + 5000);
        look(office("grade g from 0;scale g:9999;plus a=999%;"), 0, AMOUNT, 999900 + 9999 * 999);
    }

    /** Terms 2: "AMOUNT (in hundredths): 100 BASE, and all PLUS": the greatest of all. */
    private static void theGreatestAmount() {
        look(greatest(), 1199, AMOUNT, 999900 + 26 * 9999 * 999);
    }

    static PayScales greatest() {
        StringBuilder text = new StringBuilder("grade z from 0;scale z:9999;");
        for (char name = 'a'; name <= 'z'; name++) {
            text.append("plus ").append(name).append("=999%;");
        }
        return office(text.toString());
    }

    /** Terms 2: "All this of POSTS that are not HELD, too". */
    private static void ofPostsThatAreNotHeld() {
        PayScales office = office("test a A=0=5;grade g from 5;scale g:7,8;step 9;plus a=1;");
        office.post(0);
        office.note(1, HELD, 0, 1);
        int[] due = {5, 6, 9, 1, 8, 900, 0};
        for (int what = POINTS; what <= 15; what++) {
            look(office, 9, what, due[what - POINTS]);
        }
    }
}
