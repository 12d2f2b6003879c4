/** The edges of GIVEN and PAY in Terms 2, and of promises 9 pay, 10 due, 14 cost: a test for each sentence that names one. */
public final class PayEdgeTest {
    private static final Check CHECK = new Check("PayEdgeTest");
    private static final int HELD = 6;
    private static final int PART = 7;
    private static final int PROTECT = 8;
    private static final int AMOUNT = 14;
    private static final int GIVEN = 15;
    private static final long DAY = 840 * 1000;

    private PayEdgeTest() {
    }

    public static void main(String[] args) {
        notHeldIsNothing();
        notProtectedIsTheAmount();
        anAmountOf0();
        theFloorIsWhatWasGivenTheDayAhead();
        theFloorEndsWithAnAmountNotBelowIt();
        theFloorDoesNotComeBack();
        theFloorOnDay0();
        theFloorOnTheLastDay();
        noFloorIfItWasNotHeldThen();
        theFloorBeginsHeldOrNot();
        theFloorStaysWhileItIsNotHeld();
        theFloorOfAFloor();
        anotherNoteBeginsAnew();
        aNoteOf0EndsTheFloor();
        theNoteThatCountsOfSeveral();
        theFloorAsKnown();
        thePartIsNotInWhatIsGiven();
        payByEveryPart();
        theGreatestPay();
        payTakesAllThatThereIs();
        payAndDueAsKnown();
        payRefuses();
        aMonthHasThirtyDays();
        dueIsTheSumOfItsDays();
        theGreatestDue();
        dueRefuses();
        costOfOneMonthAndOfAll();
        costOfNoPost();
        costOfAllPosts();
        costRefuses();
        CHECK.end();
    }

    /** A post of person 0, and a plus a for each row of a day and a number. */
    private static PayScales office(int[]... rows) {
        PayScales office = new PayScales();
        office.post(0);
        for (int[] row : rows) {
            Texts.agree(office, "plus a=" + row[1] + ";", row[0]);
        }
        return office;
    }

    private static void given(PayScales office, int[]... rows) {
        for (int[] row : rows) {
            CHECK.due("given on day " + row[0], office.look(0, row[0], office.count(0), GIVEN), row[1]);
        }
    }

    /** Promise 8: "GIVEN (0 if not HELD)"; Terms 2: "PAY .. 0 if it is not HELD". */
    private static void notHeldIsNothing() {
        PayScales office = office(new int[] {0, 10});
        given(office, new int[] {0, 0}, new int[] {1199, 0});
        CHECK.due("pay(0, 0, 0)", office.pay(0, 0, 0), 0);
        office.note(0, HELD, 5, 1);
        office.note(0, HELD, 6, 0);
        given(office, new int[] {4, 0}, new int[] {5, 1000}, new int[] {6, 0});
        CHECK.due("pay(0, 4, 0)", office.pay(0, 4, 0), 0);
        CHECK.due("pay(0, 5, 0)", office.pay(0, 5, 0), DAY);
        CHECK.due("pay(0, 6, 0)", office.pay(0, 6, 0), 0);
        CHECK.due("the amount stays", office.look(0, 6, 0, AMOUNT), 1000);
    }

    /** Terms 2: "if PROTECT is 1: .. Else AMOUNT". */
    private static void notProtectedIsTheAmount() {
        PayScales office = office(new int[] {0, 90}, new int[] {10, 50});
        office.note(0, HELD, 0, 1);
        given(office, new int[] {9, 9000}, new int[] {10, 5000});
        office.note(0, PROTECT, 10, 0);
        given(office, new int[] {9, 9000}, new int[] {10, 5000});
    }

    /** Terms 2: "Else AMOUNT", where there is none to give. */
    private static void anAmountOf0() {
        PayScales office = new PayScales();
        office.post(0);
        office.note(0, HELD, 0, 1);
        given(office, new int[] {0, 0}, new int[] {1199, 0});
        CHECK.due("pay(0, 0, 0)", office.pay(0, 0, 0), 0);
        CHECK.due("due(0, 39, 0)", office.due(0, 39, 0), 0);
        for (int v = 0; v <= 1; v++) {
            office.note(0, PROTECT, 10 + v, v);
            given(office, new int[] {9, 0}, new int[] {10, 0}, new int[] {11, 0}, new int[] {1199, 0});
        }
    }

    /** Terms 2: "from the DAY of the NOTE that counts .. what was GIVEN on the DAY ahead of it .. is the FLOOR". */
    private static void theFloorIsWhatWasGivenTheDayAhead() {
        int[][] due = {{9, 9000, 5000}, {10, 9000, 9000}, {11, 5000, 5000}};
        for (int[] row : due) {
            PayScales office = office(new int[] {0, 90}, new int[] {10, 50});
            office.note(0, HELD, 0, 1);
            office.note(0, PROTECT, row[0], 1);
            given(office, new int[] {9, 9000}, new int[] {row[0], row[1]}, new int[] {12, row[2]}, new int[] {1199, row[2]});
        }
        PayScales at9 = office(new int[] {0, 90}, new int[] {10, 50}, new int[] {9, 95});
        at9.note(0, HELD, 0, 1);
        at9.note(0, PROTECT, 10, 1);
        given(at9, new int[] {8, 9000}, new int[] {9, 9500}, new int[] {10, 9500});
    }

    /** An office whose amount is 200 hundredths, then 100, then 100 and so many percent from day 20 on. */
    private static PayScales percents(int percent) {
        PayScales office = new PayScales();
        office.post(0);
        Texts.agree(office, "grade g from 0;scale g:1;plus a=100%;", 0);
        Texts.agree(office, "plus a=0%;", 10);
        Texts.agree(office, "plus a=" + percent + "%;", 20);
        Texts.agree(office, "plus a=3%;", 30);
        office.note(0, HELD, 0, 1);
        office.note(0, PROTECT, 10, 1);
        return office;
    }

    /** Terms 2: "till an AMOUNT on a DAY that is HELD is not below it": by one hundredth, the same, one above. */
    private static void theFloorEndsWithAnAmountNotBelowIt() {
        given(percents(99), new int[] {19, 200}, new int[] {20, 200}, new int[] {29, 200}, new int[] {30, 200});
        given(percents(100), new int[] {19, 200}, new int[] {20, 200}, new int[] {29, 200}, new int[] {30, 103});
        given(percents(101), new int[] {19, 200}, new int[] {20, 201}, new int[] {29, 201}, new int[] {30, 103});
    }

    /** Terms 2: "from then on AMOUNT". */
    private static void theFloorDoesNotComeBack() {
        PayScales office = office(new int[] {0, 90}, new int[] {10, 50}, new int[] {20, 90}, new int[] {21, 50}, new int[] {30, 95},
            new int[] {31, 10});
        office.note(0, HELD, 0, 1);
        office.note(0, PROTECT, 10, 1);
        given(office, new int[] {19, 9000}, new int[] {20, 9000}, new int[] {21, 5000}, new int[] {30, 9500}, new int[] {31, 1000},
            new int[] {1199, 1000});
    }

    /** Terms 2: "(0, .. or there is none)": DAY 0 has no DAY ahead of it. */
    private static void theFloorOnDay0() {
        PayScales office = office(new int[] {0, 90}, new int[] {1, 50});
        office.note(0, HELD, 0, 1);
        office.note(0, PROTECT, 0, 1);
        given(office, new int[] {0, 9000}, new int[] {1, 5000});
        office.note(0, PROTECT, 1, 1);
        given(office, new int[] {0, 9000}, new int[] {1, 9000}, new int[] {1199, 9000});
        PayScales nothing = office(new int[] {5, 10});
        nothing.note(0, HELD, 0, 1);
        nothing.note(0, PROTECT, 0, 1);
        given(nothing, new int[] {0, 0}, new int[] {4, 0}, new int[] {5, 1000}, new int[] {0, 0});
    }

    /** Terms 1 and 2: a NOTE from DAY 1199 on. */
    private static void theFloorOnTheLastDay() {
        PayScales office = office(new int[] {0, 90}, new int[] {1199, 50});
        office.note(0, HELD, 0, 1);
        given(office, new int[] {1198, 9000}, new int[] {1199, 5000});
        office.note(0, PROTECT, 1199, 1);
        given(office, new int[] {1198, 9000}, new int[] {1199, 9000});
        CHECK.due("pay(0, 1199, 0)", office.pay(0, 1199, 0), 9 * DAY);
        CHECK.due("due(0, 39, 0)", office.due(0, 39, 0), 270 * DAY);
    }

    /** Terms 2: "(0, if it wasn't HELD then ..)". */
    private static void noFloorIfItWasNotHeldThen() {
        PayScales office = office(new int[] {0, 90}, new int[] {10, 50}, new int[] {12, 40});
        office.note(0, HELD, 0, 1);
        office.note(0, HELD, 9, 0);
        office.note(0, HELD, 10, 1);
        office.note(0, PROTECT, 10, 1);
        given(office, new int[] {8, 9000}, new int[] {9, 0}, new int[] {10, 5000}, new int[] {12, 4000});
        PayScales other = office(new int[] {0, 90}, new int[] {10, 50});
        other.post(0);
        other.note(1, HELD, 0, 1);
        other.note(0, HELD, 10, 1);
        other.note(0, PROTECT, 10, 1);
        given(other, new int[] {9, 0}, new int[] {10, 5000});
    }

    /** Terms 2: "from the DAY of the NOTE that counts (HELD or not)". */
    private static void theFloorBeginsHeldOrNot() {
        PayScales office = office(new int[] {0, 90}, new int[] {10, 50});
        office.note(0, HELD, 0, 1);
        office.note(0, HELD, 10, 0);
        office.note(0, HELD, 15, 1);
        office.note(0, PROTECT, 10, 1);
        given(office, new int[] {9, 9000}, new int[] {10, 0}, new int[] {14, 0}, new int[] {15, 9000});
        PayScales late = office(new int[] {0, 90}, new int[] {10, 50});
        late.note(0, HELD, 0, 1);
        late.note(0, HELD, 10, 0);
        late.note(0, HELD, 15, 1);
        late.note(0, PROTECT, 11, 1);
        given(late, new int[] {9, 9000}, new int[] {14, 0}, new int[] {15, 5000});
    }

    /** Terms 2: "an AMOUNT on a DAY that is HELD": one on another DAY does not end it. */
    private static void theFloorStaysWhileItIsNotHeld() {
        PayScales office = office(new int[] {0, 90}, new int[] {10, 50}, new int[] {20, 99}, new int[] {25, 50});
        office.note(0, HELD, 0, 1);
        office.note(0, PROTECT, 10, 1);
        office.note(0, HELD, 20, 0);
        office.note(0, HELD, 25, 1);
        given(office, new int[] {19, 9000}, new int[] {20, 0}, new int[] {24, 0}, new int[] {25, 9000}, new int[] {1199, 9000});
        CHECK.due("the amount on day 24", office.look(0, 24, 0, AMOUNT), 9900);
        office.note(0, HELD, 24, 1);
        given(office, new int[] {23, 0}, new int[] {24, 9900}, new int[] {25, 5000});
    }

    /** Terms 2: "what was GIVEN on the DAY ahead of it, perhaps a FLOOR". */
    private static void theFloorOfAFloor() {
        PayScales office = office(new int[] {0, 90}, new int[] {10, 50}, new int[] {20, 40}, new int[] {30, 30});
        office.note(0, HELD, 0, 1);
        office.note(0, PROTECT, 10, 1);
        office.note(0, PROTECT, 20, 1);
        office.note(0, PROTECT, 30, 1);
        given(office, new int[] {10, 9000}, new int[] {19, 9000}, new int[] {20, 9000}, new int[] {30, 9000}, new int[] {1199, 9000});
    }

    /** Terms 2: "(Another NOTE that counts, of 1 too, begins so anew.)". */
    private static void anotherNoteBeginsAnew() {
        PayScales office = office(new int[] {0, 90}, new int[] {10, 50}, new int[] {20, 95}, new int[] {25, 60}, new int[] {30, 55});
        office.note(0, HELD, 0, 1);
        office.note(0, PROTECT, 10, 1);
        given(office, new int[] {24, 9500}, new int[] {25, 6000}, new int[] {30, 5500});
        office.note(0, PROTECT, 25, 1);
        given(office, new int[] {24, 9500}, new int[] {25, 9500}, new int[] {30, 9500});
        office.note(0, HELD, 28, 0);
        office.note(0, HELD, 29, 1);
        given(office, new int[] {28, 0}, new int[] {29, 9500});
        office.note(0, PROTECT, 29, 1);
        given(office, new int[] {29, 6000}, new int[] {30, 5500});
    }

    /** Terms 2: "if PROTECT is 1 .. Else AMOUNT": from the DAY of a NOTE of 0 on. */
    private static void aNoteOf0EndsTheFloor() {
        PayScales office = office(new int[] {0, 90}, new int[] {10, 50});
        office.note(0, HELD, 0, 1);
        office.note(0, PROTECT, 10, 1);
        office.note(0, PROTECT, 15, 0);
        given(office, new int[] {14, 9000}, new int[] {15, 5000});
        office.note(0, PROTECT, 16, 1);
        given(office, new int[] {15, 5000}, new int[] {16, 5000}, new int[] {1199, 5000});
        office.note(0, PROTECT, 15, 1);
        given(office, new int[] {14, 9000}, new int[] {15, 9000}, new int[] {16, 9000});
    }

    /** Terms 2: "the NOTE that counts": of several from one DAY the one told latest. */
    private static void theNoteThatCountsOfSeveral() {
        PayScales office = office(new int[] {0, 90}, new int[] {10, 50});
        office.note(0, HELD, 0, 1);
        office.note(0, PROTECT, 10, 1);
        office.note(0, PROTECT, 10, 0);
        given(office, new int[] {10, 5000});
        office.note(0, PROTECT, 10, 1);
        given(office, new int[] {10, 9000});
        office.note(0, PROTECT, 10, 1);
        given(office, new int[] {10, 9000});
        office.note(0, PROTECT, 5, 0);
        given(office, new int[] {9, 9000}, new int[] {10, 9000}, new int[] {1199, 9000});
    }

    /** Terms 1 and 2: what is told late changes the FLOOR of the days ahead, as KNOWN from then on. */
    private static void theFloorAsKnown() {
        PayScales office = office(new int[] {0, 90}, new int[] {10, 50});
        office.note(0, HELD, 0, 1);
        office.note(0, PROTECT, 10, 1);
        office.pass(20);
        Texts.agree(office, "plus a=70;", 9);
        given(office, new int[] {9, 7000}, new int[] {10, 7000});
        CHECK.due("as known on day 19", office.look(0, 10, 19, GIVEN), 9000);
        office.pass(1);
        office.note(0, HELD, 9, 0);
        office.note(0, HELD, 10, 1);
        given(office, new int[] {10, 5000});
        CHECK.due("as known on day 20", office.look(0, 10, 20, GIVEN), 7000);
    }

    /** Terms 2: "PAY of a DAY: GIVEN by 30 times PART": the FLOOR is of GIVEN, not of PAY. */
    private static void thePartIsNotInWhatIsGiven() {
        PayScales office = office(new int[] {0, 90}, new int[] {10, 50});
        office.note(0, HELD, 0, 1);
        office.note(0, PART, 0, 12);
        office.note(0, PROTECT, 10, 1);
        office.note(0, PART, 10, 14);
        given(office, new int[] {9, 9000}, new int[] {10, 9000});
        CHECK.due("pay(0, 9, 0)", office.pay(0, 9, 0), 9 * DAY / 2);
        CHECK.due("pay(0, 10, 0)", office.pay(0, 10, 0), 9 * DAY / 4);
    }

    /** Terms 2: "in 2520000ths: 840 GIVEN p / q": of one hundredth and of many, without a rest. */
    private static void payByEveryPart() {
        for (int amount : new int[] {101, 199}) {
            PayScales office = new PayScales();
            office.post(0);
            Texts.agree(office, "grade g from 0;scale g:1;plus a=" + (amount - 100) + "%;", 0);
            office.note(0, HELD, 0, 1);
            for (int q = 1; q <= 8; q++) {
                for (int p = 0; p <= q; p++) {
                    office.note(0, PART, 3, 10 * p + q);
                    CHECK.due("pay of " + p + " by " + q + ", times q", q * office.pay(0, 3, 0), 840L * amount * p);
                    CHECK.due("pay of the day ahead", office.pay(0, 2, 0), 840L * amount);
                }
            }
        }
    }

    /** Promise 9: "PAY", the greatest: beyond an int. */
    private static void theGreatestPay() {
        PayScales office = WorthEdgeTest.greatest();
        office.note(0, HELD, 0, 1);
        long given = 999900 + 26L * 9999 * 999;
        CHECK.due("pay(0, 0, 0)", office.pay(0, 0, 0), 840 * given);
        CHECK.due("pay(0, 1199, 0)", office.pay(0, 1199, 0), 840 * given);
        office.note(0, PART, 1199, 78);
        CHECK.due("pay of 7 by 8", office.pay(0, 1199, 0), 105 * given * 7);
        CHECK.due("pay of the day ahead", office.pay(0, 1198, 0), 840 * given);
    }

    /** Promise 9: the first and the last POST and DAY, KNOWN up to TODAY. */
    private static void payTakesAllThatThereIs() {
        PayScales office = Offices.ofPosts(8);
        office.pass(1199);
        for (int post : new int[] {0, 7}) {
            CHECK.due("pay of day 0, known on 0", office.pay(post, 0, 0), DAY);
            CHECK.due("pay of day 1199, known on 1199", office.pay(post, 1199, 1199), DAY);
            CHECK.due("due of month 0, known on 0", office.due(post, 0, 0), 30 * DAY);
            CHECK.due("due of month 39, known on 1199", office.due(post, 39, 1199), 30 * DAY);
        }
    }

    /** Terms 3: "as KNOWN": on the DAY of the telling, and on the one ahead of it. */
    private static void payAndDueAsKnown() {
        PayScales office = Offices.ofPosts(1);
        office.pass(40);
        office.note(0, HELD, 29, 0);
        Texts.agree(office, "plus a=20;", 28);
        office.pass(1);
        for (int known = 39; known <= 41; known++) {
            boolean told = known >= 40;
            CHECK.due("pay of day 28, known on " + known, office.pay(0, 28, known), told ? 2 * DAY : DAY);
            CHECK.due("pay of day 29, known on " + known, office.pay(0, 29, known), told ? 0 : DAY);
            CHECK.due("due of month 0, known on " + known, office.due(0, 0, known), 30 * DAY);
            CHECK.due("due of month 1, known on " + known, office.due(0, 1, known), told ? 0 : 30 * DAY);
            CHECK.due("cost of both, known on " + known, office.cost(0, 1, known), told ? 30 * DAY : 60 * DAY);
        }
    }

    /** Promise 9: "NONE likewise". */
    private static void payRefuses() {
        PayScales office = Offices.ofPosts(8);
        office.pass(9);
        for (int post : Edges.outside(0, 7)) {
            CHECK.due("pay of post " + post, office.pay(post, 0, 0), -1);
        }
        for (int day : Edges.outside(0, 1199)) {
            CHECK.due("pay of day " + day, office.pay(0, day, 0), -1);
        }
        for (int known : Edges.outside(0, 9)) {
            CHECK.due("pay known on " + known, office.pay(0, 0, known), -1);
        }
        CHECK.due("pay(0, 0, 9)", office.pay(0, 0, 9), DAY);
        PayScales two = office(new int[] {0, 10});
        two.post(1);
        CHECK.due("pay of the third of two", two.pay(2, 0, 0), -1);
        CHECK.due("due of the third of two", two.due(2, 0, 0), -1);
        CHECK.due("paid of the third of two", two.paid(2, 0), -1);
    }

    /** Terms 1: "MONTH m (0 .. 39) has the DAYS 30 m .. 30 m + 29": one DAY that is HELD, around both ends. */
    private static void aMonthHasThirtyDays() {
        for (int month : new int[] {0, 1, 20, 38, 39}) {
            for (int day : new int[] {30 * month - 1, 30 * month, 30 * month + 29, 30 * month + 30}) {
                if (day >= 0 && day <= 1199) {
                    PayScales office = office(new int[] {0, 10});
                    office.note(0, HELD, day, 1);
                    if (day < 1199) {
                        office.note(0, HELD, day + 1, 0);
                    }
                    boolean within = day / 30 == month;
                    CHECK.due("due of month " + month + " by day " + day, office.due(0, month, 0), within ? DAY : 0);
                    CHECK.due("cost of month " + month + " by day " + day, office.cost(month, month, 0), within ? DAY : 0);
                }
            }
        }
    }

    /** Terms 3: "DUE .. the sum of its DAYS' PAY": steps, parts, floors and gaps that fall within a MONTH. */
    private static void dueIsTheSumOfItsDays() {
        for (int step = 1; step <= 31; step += 3) {
            PayScales office = new PayScales();
            office.post(0);
            Texts.agree(office, "grade g from 0;scale g:80,10,50,20;step " + step + ";gap 4;plus a A>0=5;", 0);
            Texts.agree(office, "scale g:30,90,40;", 44);
            office.note(0, HELD, 2, 1);
            office.note(0, HELD, 40, 0);
            office.note(0, HELD, 43 + step % 3, 1);
            office.note(0, PROTECT, 50, 1);
            office.note(0, 0, 20 + step, 1);
            office.note(0, PART, 35, 57);
            long all = 0;
            for (int month = 0; month < 4; month++) {
                long sum = 0;
                for (int day = 30 * month; day < 30 * month + 30; day++) {
                    sum += office.pay(0, day, 0);
                }
                CHECK.due("due of month " + month + " with steps of " + step, office.due(0, month, 0), sum);
                all += sum;
            }
            CHECK.due("cost(0, 3, 0) with steps of " + step, office.cost(0, 3, 0), all);
            office.pass(120);
            office.run();
            CHECK.due("paid(0, 1) with steps of " + step, office.paid(0, 1), office.due(0, 1, 0));
        }
        PayScales office = new PayScales();
        office.post(0);
        Texts.agree(office, "grade g from 0;scale g:1,10,100;step 7;", 0);
        office.note(0, HELD, 0, 1);
        CHECK.due("due of three steps", office.due(0, 0, 0), 840L * 100 * (7 + 70 + 1600));
    }

    /** Promise 10: "DUE", the greatest. */
    private static void theGreatestDue() {
        PayScales office = WorthEdgeTest.greatest();
        office.note(0, HELD, 0, 1);
        long given = 999900 + 26L * 9999 * 999;
        CHECK.due("due(0, 0, 0)", office.due(0, 0, 0), 30 * 840 * given);
        CHECK.due("due(0, 39, 0)", office.due(0, 39, 0), 30 * 840 * given);
        for (int post = 1; post < 8; post++) {
            office.post(post);
            office.note(post, HELD, 0, 1);
        }
        CHECK.due("cost(0, 39, 0)", office.cost(0, 39, 0), 8 * 1200 * 840 * given);
    }

    /** Promise 10: "NONE: no such POST, MONTH, KNOWN". */
    private static void dueRefuses() {
        PayScales office = Offices.ofPosts(8);
        office.pass(9);
        for (int post : Edges.outside(0, 7)) {
            CHECK.due("due of post " + post, office.due(post, 0, 0), -1);
        }
        for (int month : Edges.outside(0, 39)) {
            CHECK.due("due of month " + month, office.due(0, month, 0), -1);
        }
        for (int known : Edges.outside(0, 9)) {
            CHECK.due("due known on " + known, office.due(0, 0, known), -1);
        }
        CHECK.due("due(0, 0, 9)", office.due(0, 0, 9), 30 * DAY);
        PayScales none = new PayScales();
        CHECK.due("due without a post", none.due(0, 0, 0), -1);
    }

    /** Promise 14: "the sum of all POSTS' DUES of MONTHS a .. b". */
    private static void costOfOneMonthAndOfAll() {
        PayScales office = office(new int[] {0, 10});
        for (int month = 0; month < 30; month++) {
            office.note(0, HELD, 30 * month, 1);
            office.note(0, HELD, 30 * month + month, 0);
        }
        CHECK.due("cost(0, 0, 0)", office.cost(0, 0, 0), 0);
        CHECK.due("cost(1, 1, 0)", office.cost(1, 1, 0), DAY);
        CHECK.due("cost(0, 1, 0)", office.cost(0, 1, 0), DAY);
        CHECK.due("cost(3, 5, 0)", office.cost(3, 5, 0), 12 * DAY);
        CHECK.due("cost(28, 29, 0)", office.cost(28, 29, 0), 57 * DAY);
        CHECK.due("cost(0, 29, 0)", office.cost(0, 29, 0), 435 * DAY);
    }

    /** Promise 14: "all POSTS'", where there is none. */
    private static void costOfNoPost() {
        PayScales office = new PayScales();
        CHECK.due("cost(0, 39, 0)", office.cost(0, 39, 0), 0);
        CHECK.due("cost(39, 39, 0)", office.cost(39, 39, 0), 0);
        CHECK.due("cost(1, 0, 0)", office.cost(1, 0, 0), -1);
    }

    /** Promise 14: "all POSTS'", where there are eight, as KNOWN. */
    private static void costOfAllPosts() {
        PayScales office = Offices.ofPosts(8);
        CHECK.due("cost(0, 0, 0)", office.cost(0, 0, 0), 8 * 30 * DAY);
        CHECK.due("cost(39, 39, 0)", office.cost(39, 39, 0), 8 * 30 * DAY);
        CHECK.due("cost(0, 39, 0)", office.cost(0, 39, 0), 8 * 1200 * DAY);
        office.pass(1);
        office.note(7, HELD, 1199, 0);
        CHECK.due("cost(0, 39, 1)", office.cost(0, 39, 1), (8 * 1200 - 1) * DAY);
        CHECK.due("cost(0, 39, 0)", office.cost(0, 39, 0), 8 * 1200 * DAY);
        CHECK.due("cost(0, 38, 1)", office.cost(0, 38, 1), 8 * 1170 * DAY);
    }

    /** Promise 14: "NONE: no such MONTHS, KNOWN, or b is below a". */
    private static void costRefuses() {
        PayScales office = Offices.ofPosts(8);
        office.pass(9);
        for (int month : Edges.outside(0, 39)) {
            CHECK.due("cost(" + month + ", 39, 0)", office.cost(month, 39, 0), -1);
            CHECK.due("cost(0, " + month + ", 0)", office.cost(0, month, 0), -1);
            CHECK.due("cost(" + month + ", " + month + ", 0)", office.cost(month, month, 0), -1);
        }
        for (int known : Edges.outside(0, 9)) {
            CHECK.due("cost known on " + known, office.cost(0, 0, known), -1);
        }
        CHECK.due("cost(1, 0, 0)", office.cost(1, 0, 0), -1);
        CHECK.due("cost(39, 38, 0)", office.cost(39, 38, 0), -1);
        CHECK.due("cost(39, 0, 0)", office.cost(39, 0, 0), -1);
        CHECK.due("cost(38, 39, 9)", office.cost(38, 39, 9), 8 * 60 * DAY);
    }
}
