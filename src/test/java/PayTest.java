/** Promises 8 look, 9 pay, 10 due, 14 cost: points, grades, service, steps, amounts, protection. */
public final class PayTest {
    private static final Check CHECK = new Check("PayTest");
    private static final int POINTS = 9;
    private static final int GRADE = 10;
    private static final int SERVICE = 11;
    private static final int STEP = 12;
    private static final int BASE = 13;
    private static final int AMOUNT = 14;
    private static final int GIVEN = 15;

    private PayTest() {
    }

    public static void main(String[] args) {
        pointsAreSummed();
        gradesAreReached();
        linesWin();
        endsWin();
        serviceIsThePersons();
        serviceAndGaps();
        stepsOfService();
        plusOfAllKinds();
        greatestAmount();
        protectedPay();
        protectedWhileNotHeld();
        protectedAnew();
        protectedFromDayZero();
        payByParts();
        dueAndCost();
        asKnown();
        wrongInputs();
        CHECK.end();
    }

    private static PayScales office(String text) {
        return Offices.ofText(CHECK, text);
    }

    private static void look(PayScales office, int day, int what, long want) {
        CHECK.due("look(0, " + day + ", today, " + what + ")", office.look(0, day, office.count(0), what), want);
    }

    private static void pointsAreSummed() {
        PayScales office = office("test a A>3=10;test b A=3=200;test c B<0=3000;test d A<3=7;");
        int[][] due = {{2, 0, 7}, {3, 0, 200}, {4, 0, 10}, {-5, -1, 3007}, {9999, -9999, 3010}};
        for (int[] row : due) {
            office.note(0, 0, 0, row[0]);
            office.note(0, 1, 0, row[1]);
            look(office, 0, POINTS, row[2]);
        }
    }

    private static void gradesAreReached() {
        PayScales office = office("test a A>0=10;grade z from 10;grade c from 10;grade a from 5;grade b from 11;");
        look(office, 0, GRADE, -1);
        office.note(0, 0, 1, 1);
        look(office, 0, GRADE, -1);
        look(office, 1, GRADE, 2);
        PayScales first = office("grade b from 0;grade a from 0;");
        look(first, 0, GRADE, 0);
        PayScales lowest = office("grade y from 0;");
        look(lowest, 0, GRADE, 24);
        look(lowest, 0, STEP, -1);
        look(lowest, 0, BASE, 0);
    }

    private static void linesWin() {
        PayScales office = office("plus a=1;plus b=10;");
        Texts.agree(office, "plus a=2;", 20);
        Texts.agree(office, "plus a=3;", 10);
        Texts.agree(office, "plus a=4;", 10);
        look(office, 9, AMOUNT, 1100);
        look(office, 10, AMOUNT, 1400);
        look(office, 19, AMOUNT, 1400);
        look(office, 20, AMOUNT, 1200);
        office.pass(3);
        Texts.agree(office, "plus a=5;", 0);
        look(office, 0, AMOUNT, 1500);
        CHECK.due("as known ahead of it", office.look(0, 0, 2, AMOUNT), 1100);
        look(office, 10, AMOUNT, 1400);
    }

    private static void endsWin() {
        PayScales office = office("test a A=0=10;grade g from 0;scale g:5;plus a=1;");
        Texts.agree(office, "end test a;", 1);
        Texts.agree(office, "end plus a;", 2);
        Texts.agree(office, "end scale g;", 3);
        Texts.agree(office, "end grade g;", 4);
        Texts.agree(office, "grade g from 0;scale g:8;", 5);
        int[][] due = {{10, 6, 0, 5, 600}, {0, 6, 0, 5, 600}, {0, 6, 0, 5, 500}, {0, 6, -1, 0, 0}, {0, -1, -1, 0, 0},
            {0, 6, 0, 8, 800}};
        for (int day = 0; day < due.length; day++) {
            look(office, day, POINTS, due[day][0]);
            look(office, day, GRADE, due[day][1]);
            look(office, day, STEP, due[day][2]);
            look(office, day, BASE, due[day][3]);
            look(office, day, AMOUNT, due[day][4]);
        }
    }

    private static void serviceIsThePersons() {
        PayScales office = new PayScales();
        office.post(3);
        office.post(3);
        office.post(4);
        office.note(1, 6, 0, 1);
        office.note(0, 6, 5, 1);
        office.note(1, 6, 8, 0);
        office.note(2, 6, 2, 1);
        int[] days = {0, 1, 5, 8, 9, 100};
        int[] first = {0, 1, 5, 8, 9, 100};
        int[] other = {0, 0, 3, 6, 7, 98};
        for (int i = 0; i < days.length; i++) {
            CHECK.due("service of 3 on " + days[i], office.look(0, days[i], 0, SERVICE), first[i]);
            CHECK.due("service of 3 by the other post", office.look(1, days[i], 0, SERVICE), first[i]);
            CHECK.due("service of 4 on " + days[i], office.look(2, days[i], 0, SERVICE), other[i]);
        }
        CHECK.due("service on the last day", office.look(0, 1199, 0, SERVICE), 1199);
    }

    private static void serviceAndGaps() {
        PayScales office = office("gap 3;");
        office.note(0, 6, 0, 1);
        office.note(0, 6, 10, 0);
        office.note(0, 6, 13, 1);
        office.note(0, 6, 20, 0);
        office.note(0, 6, 24, 1);
        int[][] due = {{10, 10}, {11, 10}, {13, 10}, {14, 11}, {20, 17}, {23, 17}, {24, 0}, {25, 1}};
        for (int[] row : due) {
            look(office, row[0], SERVICE, row[1]);
        }
        Texts.agree(office, "gap 2;", 22);
        look(office, 22, SERVICE, 17);
        look(office, 23, SERVICE, 0);
        Texts.agree(office, "gap 9;", 12);
        look(office, 13, SERVICE, 10);
        PayScales without = new PayScales();
        without.post(0);
        without.note(0, 6, 0, 1);
        without.note(0, 6, 7, 0);
        look(without, 7, SERVICE, 7);
        look(without, 8, SERVICE, 0);
    }

    private static void stepsOfService() {
        PayScales office = office("grade g from 0;scale g:10,20,30;");
        office.note(0, 6, 0, 1);
        int[][] due = {{0, 0}, {359, 0}, {360, 1}, {719, 1}, {720, 2}, {1199, 2}};
        for (int[] row : due) {
            look(office, row[0], STEP, row[1]);
            look(office, row[0], BASE, 10 * (row[1] + 1));
        }
        Texts.agree(office, "step 7;", 100);
        look(office, 99, STEP, 0);
        look(office, 100, STEP, 2);
        Texts.agree(office, "step 101;", 150);
        look(office, 150, STEP, 1);
        look(office, 201, STEP, 1);
        look(office, 202, STEP, 2);
        Texts.agree(office, "scale g:1,2,3,4,5,6,7,8;step 1;", 300);
        look(office, 300, BASE, 8);
    }

    private static void plusOfAllKinds() {
        PayScales office = office("grade g from 0;scale g:200;plus a=3;plus b=5%;plus c A>0=7;plus d B=1=9%;plus e C<0=0;");
        look(office, 0, AMOUNT, 20000 + 300 + 1000);
        office.note(0, 0, 0, 1);
        look(office, 0, AMOUNT, 20000 + 300 + 1000 + 700);
        office.note(0, 1, 0, 1);
        look(office, 0, AMOUNT, 20000 + 300 + 1000 + 700 + 1800);
        look(office, 0, GIVEN, 0);
        office.note(0, 6, 0, 1);
        look(office, 0, GIVEN, 23800);
    }

    private static void greatestAmount() {
        StringBuilder text = new StringBuilder("grade g from 0;scale g:9999;");
        for (char name = 'a'; name <= 'z'; name++) {
            text.append("plus ").append(name).append("=999%;");
        }
        PayScales office = office(text.toString());
        office.note(0, 6, 0, 1);
        long amount = 100L * 9999 + 26L * 9999 * 999;
        look(office, 0, AMOUNT, amount);
        CHECK.due("pay", office.pay(0, 0, 0), 840 * amount);
        CHECK.due("due", office.due(0, 39, 0), 30 * 840 * amount);
        CHECK.due("cost", office.cost(0, 39, 0), 1200 * 840 * amount);
    }

    private static void protectedPay() {
        PayScales office = office("plus a=90;");
        Texts.agree(office, "plus a=50;", 10);
        Texts.agree(office, "plus a=90;", 20);
        Texts.agree(office, "plus a=40;", 30);
        office.note(0, 6, 0, 1);
        look(office, 10, GIVEN, 5000);
        office.note(0, 8, 10, 1);
        int[][] due = {{9, 9000}, {10, 9000}, {19, 9000}, {20, 9000}, {30, 4000}, {1199, 4000}};
        for (int[] row : due) {
            look(office, row[0], GIVEN, row[1]);
        }
        look(office, 15, AMOUNT, 5000);
        office.note(0, 8, 15, 0);
        look(office, 14, GIVEN, 9000);
        look(office, 15, GIVEN, 5000);
        office.note(0, 8, 17, 1);
        look(office, 17, GIVEN, 5000);
        PayScales late = office("plus a=90;");
        Texts.agree(late, "plus a=50;", 10);
        late.note(0, 6, 0, 1);
        late.note(0, 8, 11, 1);
        look(late, 11, GIVEN, 5000);
    }

    private static void protectedWhileNotHeld() {
        PayScales office = office("plus a=90;");
        Texts.agree(office, "plus a=50;", 10);
        Texts.agree(office, "plus a=95;", 13);
        Texts.agree(office, "plus a=40;", 15);
        office.note(0, 6, 0, 1);
        office.note(0, 8, 10, 1);
        office.note(0, 6, 12, 0);
        office.note(0, 6, 16, 1);
        look(office, 11, GIVEN, 9000);
        look(office, 14, GIVEN, 0);
        look(office, 14, AMOUNT, 9500);
        look(office, 16, GIVEN, 9000);
        PayScales begun = office("plus a=90;");
        Texts.agree(begun, "plus a=50;", 10);
        begun.note(0, 6, 0, 1);
        begun.note(0, 6, 10, 0);
        begun.note(0, 8, 10, 1);
        begun.note(0, 6, 20, 1);
        look(begun, 10, GIVEN, 0);
        look(begun, 20, GIVEN, 9000);
        begun.note(0, 8, 10, 0);
        begun.note(0, 8, 11, 1);
        look(begun, 20, GIVEN, 5000);
    }

    private static void protectedAnew() {
        PayScales office = office("plus a=90;");
        Texts.agree(office, "plus a=50;", 10);
        Texts.agree(office, "plus a=95;", 20);
        Texts.agree(office, "plus a=60;", 25);
        office.note(0, 6, 0, 1);
        office.note(0, 8, 10, 1);
        office.note(0, 8, 15, 1);
        look(office, 15, GIVEN, 9000);
        look(office, 20, GIVEN, 9500);
        look(office, 25, GIVEN, 6000);
        office.note(0, 8, 25, 1);
        look(office, 25, GIVEN, 9500);
        office.note(0, 6, 12, 0);
        office.note(0, 6, 15, 1);
        look(office, 15, GIVEN, 5000);
        office.note(0, 8, 15, 0);
        look(office, 15, GIVEN, 5000);
    }

    private static void protectedFromDayZero() {
        PayScales office = office("plus a=90;");
        Texts.agree(office, "plus a=50;", 1);
        office.note(0, 6, 0, 1);
        office.note(0, 8, 0, 1);
        look(office, 0, GIVEN, 9000);
        look(office, 1, GIVEN, 5000);
        office.note(0, 8, 1, 1);
        look(office, 1, GIVEN, 9000);
        PayScales unpaid = office("gap 1;");
        unpaid.note(0, 6, 0, 1);
        unpaid.note(0, 8, 0, 1);
        look(unpaid, 0, GIVEN, 0);
    }

    private static void payByParts() {
        PayScales office = office("plus a=7;");
        CHECK.due("pay of a post that is not held", office.pay(0, 0, 0), 0);
        office.note(0, 6, 0, 1);
        for (int q = 1; q <= 8; q++) {
            for (int p = 0; p <= q; p++) {
                office.note(0, 7, 1, 10 * p + q);
                CHECK.due("pay of " + p + " by " + q, office.pay(0, 1, 0), 840L * 700 * p / q);
                CHECK.due("pay of the whole", office.pay(0, 0, 0), 840L * 700);
                CHECK.due("given of " + p + " by " + q, office.look(0, 1, 0, GIVEN), 700);
            }
        }
    }

    private static void dueAndCost() {
        PayScales office = office("plus a=10;");
        office.post(1);
        office.note(0, 6, 10, 1);
        office.note(0, 7, 40, 12);
        office.note(1, 6, 59, 1);
        long day = 840 * 1000;
        CHECK.due("due(0, 0, 0)", office.due(0, 0, 0), 20 * day);
        CHECK.due("due(0, 1, 0)", office.due(0, 1, 0), 10 * day + 20 * day / 2);
        CHECK.due("due(0, 39, 0)", office.due(0, 39, 0), 15 * day);
        CHECK.due("due(1, 0, 0)", office.due(1, 0, 0), 0);
        CHECK.due("due(1, 1, 0)", office.due(1, 1, 0), day);
        CHECK.due("cost(0, 0, 0)", office.cost(0, 0, 0), 20 * day);
        CHECK.due("cost(1, 1, 0)", office.cost(1, 1, 0), 21 * day);
        CHECK.due("cost(0, 2, 0)", office.cost(0, 2, 0), 86 * day);
        CHECK.due("cost(39, 39, 0)", office.cost(39, 39, 0), 45 * day);
        PayScales stepping = office("grade g from 0;scale g:1,2,3;step 10;");
        stepping.note(0, 6, 0, 1);
        CHECK.due("due of three steps", stepping.due(0, 0, 0), 840L * 100 * (10 + 20 + 30));
        CHECK.due("due of the last step", stepping.due(0, 1, 0), 840L * 100 * 90);
    }

    private static void asKnown() {
        PayScales office = office("plus a=10;");
        office.note(0, 6, 0, 1);
        office.pass(40);
        office.note(0, 6, 15, 0);
        Texts.agree(office, "plus a=20;", 0);
        CHECK.due("pay(0, 20, 39)", office.pay(0, 20, 39), 840000);
        CHECK.due("pay(0, 20, 40)", office.pay(0, 20, 40), 0);
        CHECK.due("due(0, 0, 39)", office.due(0, 0, 39), 30 * 840000);
        CHECK.due("due(0, 0, 40)", office.due(0, 0, 40), 15 * 2 * 840000);
        CHECK.due("cost(0, 1, 39)", office.cost(0, 1, 39), 60 * 840000);
        CHECK.due("cost(0, 1, 40)", office.cost(0, 1, 40), 15 * 2 * 840000);
        CHECK.due("service as known on 39", office.look(0, 30, 39, SERVICE), 30);
        CHECK.due("service as known on 40", office.look(0, 30, 40, SERVICE), 0);
    }

    private static void wrongInputs() {
        PayScales office = office("plus a=10;");
        office.note(0, 6, 0, 1);
        office.pass(10);
        int[][] refused = {{-1, 0, 0}, {1, 0, 0}, {0, -1, 0}, {0, 1200, 0}, {0, 0, -1}, {0, 0, 11},
            {Integer.MIN_VALUE, 0, 0}, {0, Integer.MAX_VALUE, 0}, {0, 0, Integer.MAX_VALUE}};
        for (int[] row : refused) {
            String arguments = java.util.Arrays.toString(row);
            CHECK.due("pay" + arguments, office.pay(row[0], row[1], row[2]), -1);
            CHECK.due("due" + arguments, office.due(row[0], row[1], row[2]), -1);
        }
        CHECK.due("due of month 40", office.due(0, 40, 0), -1);
        CHECK.due("pay of the last day", office.pay(0, 1199, 10), 840000);
        int[][] months = {{-1, 0, 0}, {0, 40, 0}, {40, 40, 0}, {2, 1, 0}, {0, 0, -1}, {0, 0, 11}, {0, -1, 0},
            {Integer.MIN_VALUE, Integer.MAX_VALUE, 0}};
        for (int[] row : months) {
            CHECK.due("cost" + java.util.Arrays.toString(row), office.cost(row[0], row[1], row[2]), -1);
        }
    }
}
