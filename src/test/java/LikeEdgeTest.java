/** The edges of LIKE in Terms 3, and of promises 15 like, 16 pair: a test for each sentence that names one. */
public final class LikeEdgeTest {
    private static final Check CHECK = new Check("LikeEdgeTest");
    private static final int HELD = 6;

    private LikeEdgeTest() {
    }

    public static void main(String[] args) {
        likeOfFewerThanTwo();
        bothAreHeld();
        pointsDifferBySpanAtMost();
        theGreatestSpan();
        amountsDiffer();
        likeTakesAllThatThereIs();
        likeAsKnown();
        likeRefuses();
        likeThatIsRefusedLeavesAll();
        pairsOfEightPosts();
        pairsByTheLesserThenTheGreater();
        amountsInLeastTerms();
        amountsBy0();
        theGreatestAmounts();
        pairRefuses();
        pairsOfTheLatestLike();
        pairsAsTheyWereThen();
        CHECK.end();
    }

    /** For each row a post that is held, its fact A and its fact B. */
    private static PayScales office(String text, int[]... rows) {
        PayScales office = new PayScales();
        CHECK.due("agree of " + text, Texts.agree(office, text, 0), 0);
        for (int[] row : rows) {
            int post = office.post(0);
            office.note(post, HELD, 0, 1);
            office.note(post, 0, 0, row[0]);
            office.note(post, 1, 0, row[1]);
        }
        return office;
    }

    private static void pair(PayScales office, int k, int... row) {
        for (int what = 0; what < 4; what++) {
            CHECK.due("pair(" + k + ", " + what + ")", office.pair(k, what), row[what]);
        }
    }

    /** Promise 15: "How many LIKE ones there are": two POSTS are needed. */
    private static void likeOfFewerThanTwo() {
        CHECK.due("like of no post", new PayScales().like(0, 0, 99999), 0);
        CHECK.due("like of one post", office("plus a=1;", new int[] {0, 0}).like(0, 0, 99999), 0);
        CHECK.due("like of two", office("plus a A=1=1;", new int[] {0, 0}, new int[] {1, 0}).like(0, 0, 99999), 1);
    }

    /** Terms 3: "two POSTS, both HELD". */
    private static void bothAreHeld() {
        for (int post = 0; post < 2; post++) {
            PayScales office = office("plus a A=1=1;", new int[] {0, 0}, new int[] {1, 0});
            office.note(post, HELD, 10, 0);
            office.note(1 - post, HELD, 20, 0);
            office.note(post, HELD, 30, 1);
            office.note(1 - post, HELD, 40, 1);
            int[][] due = {{0, 1}, {9, 1}, {10, 0}, {19, 0}, {20, 0}, {29, 0}, {30, 0}, {39, 0}, {40, 1}, {1199, 1}};
            for (int[] row : due) {
                CHECK.due("like on day " + row[0], office.like(row[0], 0, 99999), row[1]);
            }
        }
    }

    /** Terms 3: "whose POINTS differ by SPAN at most", whichever has more. */
    private static void pointsDifferBySpanAtMost() {
        for (int more = 0; more < 2; more++) {
            PayScales office = office("test a A=1=7;plus a A=1=1;", new int[] {more, 0}, new int[] {1 - more, 0});
            int[][] due = {{0, 0}, {6, 0}, {7, 1}, {8, 1}, {99999, 1}};
            for (int[] row : due) {
                CHECK.due("like by " + row[0], office.like(0, 0, row[0]), row[1]);
            }
        }
        PayScales same = office("test a A<9=7;plus a A=1=1;", new int[] {0, 0}, new int[] {1, 0});
        CHECK.due("like by 0 of the same points", same.like(0, 0, 0), 1);
    }

    /** Promise 15: "SPAN (0 .. 99999)": POINTS that differ by 99998, 99999, 100000 and by the most. */
    private static void theGreatestSpan() {
        StringBuilder text = new StringBuilder("plus a A>0=1;");
        for (char name = 'a'; name <= 'j'; name++) {
            text.append("test ").append(name).append(" A>0=9999;");
        }
        text.append("test k A>0=8;test l A>1=1;test m A>2=1;");
        PayScales office = office(text.toString(), new int[] {0, 0}, new int[] {1, 0});
        CHECK.due("points", office.look(1, 0, 0, 9), 99998);
        CHECK.due("like by 99997", office.like(0, 0, 99997), 0);
        CHECK.due("like by 99998", office.like(0, 0, 99998), 1);
        office.note(1, 0, 0, 2);
        CHECK.due("like of 99999 by 99998", office.like(0, 0, 99998), 0);
        CHECK.due("like of 99999 by 99999", office.like(0, 0, 99999), 1);
        office.note(1, 0, 0, 3);
        CHECK.due("like of 100000 by 99999", office.like(0, 0, 99999), 0);
        CHECK.due("like of 100000 by 100000", office.like(0, 0, 100000), -1);
    }

    /** Terms 3: "whose AMOUNTS differ": by one hundredth, and not by what is GIVEN or by the PART. */
    private static void amountsDiffer() {
        PayScales office = office("grade g from 0;scale g:1;plus a A=1=1%;", new int[] {0, 0}, new int[] {1, 0}, new int[] {0, 0});
        CHECK.due("like(0, 0, 0)", office.like(0, 0, 0), 2);
        pair(office, 0, 0, 1, 100, 101);
        pair(office, 1, 1, 2, 101, 100);
        PayScales parts = office("plus a=5;", new int[] {0, 0}, new int[] {0, 0});
        parts.note(0, 7, 0, 12);
        CHECK.due("like of other parts", parts.like(0, 0, 99999), 0);
        PayScales given = office("plus a=5;", new int[] {0, 0}, new int[] {0, 0});
        Texts.agree(given, "plus a=3;", 10);
        given.note(0, 8, 10, 1);
        CHECK.due("given to the one", given.look(0, 10, 0, 15), 500);
        CHECK.due("given to the other", given.look(1, 10, 0, 15), 300);
        CHECK.due("like of other pay", given.like(10, 0, 99999), 0);
    }

    /** Promise 15: the first and the last DAY, KNOWN up to TODAY, the least and the greatest SPAN. */
    private static void likeTakesAllThatThereIs() {
        PayScales office = office("plus a A=1=1;", new int[] {0, 0}, new int[] {1, 0});
        office.pass(9);
        for (int day : new int[] {0, 1199}) {
            for (int known : new int[] {0, 9}) {
                CHECK.due("like(" + day + ", " + known + ", 0)", office.like(day, known, 0), 1);
                CHECK.due("like(" + day + ", " + known + ", 99999)", office.like(day, known, 99999), 1);
            }
        }
        office.pass(1190);
        CHECK.due("like(1199, 1199, 0)", office.like(1199, 1199, 0), 1);
    }

    /** Terms 3: "as KNOWN": on the DAY of the telling, and on the one ahead of it. */
    private static void likeAsKnown() {
        PayScales office = office("plus a A=1=1;", new int[] {0, 0}, new int[] {0, 0});
        office.pass(7);
        office.note(1, 0, 0, 1);
        office.pass(1);
        office.note(0, HELD, 0, 0);
        int[] due = {0, 1, 0};
        for (int known = 6; known <= 8; known++) {
            CHECK.due("like known on day " + known, office.like(0, known, 0), due[known - 6]);
        }
    }

    private static void refuseAll(PayScales office, int today) {
        for (int day : Edges.outside(0, 1199)) {
            CHECK.due("like on day " + day, office.like(day, 0, 0), -1);
        }
        for (int known : Edges.outside(0, today)) {
            CHECK.due("like known on " + known, office.like(0, known, 0), -1);
        }
        int[] spans = {-1, 100000, 100001, 1 << 24, Integer.MIN_VALUE, Integer.MAX_VALUE};
        for (int span : spans) {
            CHECK.due("like by " + span, office.like(0, 0, span), -1);
        }
    }

    /** Promise 15: "NONE: no such DAYS, SPAN (0 .. 99999)". */
    private static void likeRefuses() {
        refuseAll(new PayScales(), 0);
        PayScales office = office("plus a A=1=1;", new int[] {0, 0}, new int[] {1, 0});
        office.pass(9);
        refuseAll(office, 9);
        CHECK.due("pair(0, 0) ahead of a like()", office.pair(0, 0), -1);
    }

    /** Promise 16: "the latest like() that was not NONE". */
    private static void likeThatIsRefusedLeavesAll() {
        Twins.stayAlike(CHECK, "like() that was NONE", Twins::tellMuch, office -> refuseAll(office, 65));
    }

    /** Promise 15: the most LIKE ones. */
    private static void pairsOfEightPosts() {
        StringBuilder text = new StringBuilder();
        int[][] rows = new int[8][];
        for (int i = 0; i < 8; i++) {
            text.append("plus ").append((char) ('a' + i)).append(" A=").append(i).append('=').append(i + 1).append(';');
            rows[i] = new int[] {i, 0};
        }
        PayScales office = office(text.toString(), rows);
        CHECK.due("like of eight", office.like(0, 0, 0), 28);
        int k = 0;
        for (int lesser = 0; lesser < 8; lesser++) {
            for (int greater = lesser + 1; greater < 8; greater++) {
                CHECK.due("pair(" + k + ", 0)", office.pair(k, 0), lesser);
                CHECK.due("pair(" + k + ", 1)", office.pair(k, 1), greater);
                k++;
            }
        }
        pair(office, 27, 6, 7, 7, 8);
        CHECK.due("pair(28, 0)", office.pair(28, 0), -1);
        CHECK.due("count(2)", office.count(2), 8);
    }

    /** Promise 16: "by the lesser POST, then the greater", with some that are not LIKE between them. */
    private static void pairsByTheLesserThenTheGreater() {
        PayScales office = office("plus a A=1=1;plus b A=2=2;", new int[] {1, 0}, new int[] {2, 0}, new int[] {1, 0},
            new int[] {2, 0});
        CHECK.due("like(0, 0, 0)", office.like(0, 0, 0), 4);
        pair(office, 0, 0, 1, 1, 2);
        pair(office, 1, 0, 3, 1, 2);
        pair(office, 2, 1, 2, 2, 1);
        pair(office, 3, 2, 3, 1, 2);
    }

    /** Promise 16: "their AMOUNTS by one another in least terms". */
    private static void amountsInLeastTerms() {
        int[][] due = {{12, 18, 2, 3}, {18, 12, 3, 2}, {1, 9999, 1, 9999}, {9999, 1, 9999, 1}, {9998, 9999, 9998, 9999},
            {7, 14, 1, 2}, {14, 7, 2, 1}, {9999, 3333, 3, 1}};
        for (int[] row : due) {
            PayScales office = office("plus a A=1=" + row[0] + ";plus b A=2=" + row[1] + ";", new int[] {1, 0}, new int[] {2, 0});
            CHECK.due("like(0, 0, 0)", office.like(0, 0, 0), 1);
            pair(office, 0, 0, 1, row[2], row[3]);
        }
    }

    /** Promise 16: "(0 by 0 told as 0, 1; by 0: 1, 0)": 0 by 0 is never LIKE, since those do not differ. */
    private static void amountsBy0() {
        PayScales office = office("plus a A=1=8;", new int[] {0, 0}, new int[] {1, 0}, new int[] {0, 0}, new int[] {1, 0});
        CHECK.due("like(0, 0, 0)", office.like(0, 0, 0), 4);
        pair(office, 0, 0, 1, 0, 1);
        pair(office, 1, 0, 3, 0, 1);
        pair(office, 2, 1, 2, 1, 0);
        pair(office, 3, 2, 3, 0, 1);
    }

    /** Promise 16: the greatest AMOUNTS, and those that share no divisor with them. */
    private static void theGreatestAmounts() {
        StringBuilder text = new StringBuilder("grade z from 0;scale z:9999;");
        for (char name = 'a'; name < 'z'; name++) {
            text.append("plus ").append(name).append("=999%;");
        }
        PayScales office = office(text + "plus z A=1=998%;", new int[] {0, 0}, new int[] {1, 0}, new int[] {2, 0});
        Texts.agree(office, "plus z A=2=999%;", 1);
        int twentyFive = 100 + 25 * 999;
        CHECK.due("like(0, 0, 0)", office.like(0, 0, 0), 2);
        pair(office, 0, 0, 1, twentyFive, twentyFive + 998);
        CHECK.due("like(1, 0, 0)", office.like(1, 0, 0), 2);
        pair(office, 0, 0, 2, twentyFive, twentyFive + 999);
        Texts.agree(office, "plus y A=2=999;", 2);
        CHECK.due("like(2, 0, 0)", office.like(2, 0, 0), 2);
        int less = 9999 * (100 + 24 * 999);
        int more = less + 9999 * 999 + 99900;
        int divisor = java.math.BigInteger.valueOf(less).gcd(java.math.BigInteger.valueOf(more)).intValue();
        pair(office, 0, 0, 2, less / divisor, more / divisor);
    }

    /** Promise 16: "NONE: none such": no other k, and no other what that a neighbour's row could answer. */
    private static void pairRefuses() {
        PayScales office = office("plus a A=1=1;", new int[] {0, 0}, new int[] {1, 0}, new int[] {0, 0}, new int[] {1, 0});
        CHECK.due("pair(0, 0) ahead of a like()", office.pair(0, 0), -1);
        CHECK.due("like(0, 0, 0)", office.like(0, 0, 0), 4);
        Edges.onlyCells(CHECK, "pair", 4, 4, office::pair);
    }

    /** Promise 16: "of the latest like()": fewer than the one ahead had. */
    private static void pairsOfTheLatestLike() {
        PayScales office = office("test a A=2=5;plus a A>0=1;", new int[] {0, 0}, new int[] {1, 0}, new int[] {2, 0});
        CHECK.due("like by 5", office.like(0, 0, 5), 2);
        pair(office, 1, 0, 2, 0, 1);
        CHECK.due("like by 4", office.like(0, 0, 4), 1);
        pair(office, 0, 0, 1, 0, 1);
        CHECK.due("pair(1, 0)", office.pair(1, 0), -1);
        CHECK.due("like of none", new PayScales().like(0, 0, 4), 0);
        office.note(1, HELD, 7, 0);
        CHECK.due("like of none", office.like(7, 0, 4), 0);
        CHECK.due("pair(0, 0)", office.pair(0, 0), -1);
    }

    /** Promise 16: "as it was then". */
    private static void pairsAsTheyWereThen() {
        PayScales office = office("plus a A=1=2;plus b=1;", new int[] {0, 0}, new int[] {1, 0});
        CHECK.due("like(0, 0, 0)", office.like(0, 0, 0), 1);
        office.pass(40);
        office.note(0, HELD, 0, 0);
        office.note(1, 0, 0, 5);
        Texts.agree(office, "plus a=9;", 0);
        office.post(1);
        office.run();
        office.meet(0, 0);
        office.look(1, 100, 40, 14);
        pair(office, 0, 0, 1, 1, 3);
        CHECK.due("like with a span too great", office.like(0, 40, 100000), -1);
        CHECK.due("like on a day too late", office.like(1200, 40, 0), -1);
        CHECK.due("like known tomorrow", office.like(0, 41, 0), -1);
        pair(office, 0, 0, 1, 1, 3);
    }
}
