/** Promises 15 like, 16 pair. */
public final class LikeTest {
    private static final Check CHECK = new Check("LikeTest");
    private static final String TEXT = "test a A>0=10;test b A>1=1;plus a B>0=4;plus b B>1=6;plus c B>2=5;";

    private LikeTest() {
    }

    public static void main(String[] args) {
        pairsThatAreLike();
        pairsAsTheyWereThen();
        allPairs();
        wrongInputs();
        CHECK.end();
    }

    /** Each row: whether the post is held, its fact A, its fact B. */
    private static PayScales office(int[]... posts) {
        PayScales office = new PayScales();
        Texts.agree(office, TEXT, 0);
        for (int[] row : posts) {
            int post = office.post(0);
            office.note(post, 6, 5, row[0]);
            office.note(post, 0, 0, row[1]);
            office.note(post, 1, 0, row[2]);
        }
        return office;
    }

    private static void pair(PayScales office, int k, int a, int b, int first, int second) {
        CHECK.due("pair(" + k + ", 0)", office.pair(k, 0), a);
        CHECK.due("pair(" + k + ", 1)", office.pair(k, 1), b);
        CHECK.due("pair(" + k + ", 2)", office.pair(k, 2), first);
        CHECK.due("pair(" + k + ", 3)", office.pair(k, 3), second);
    }

    private static void pairsThatAreLike() {
        // points 0, 10, 11, 11 (not held), 0; amounts 400, 1000, 1500, 400, 0
        PayScales office = office(new int[] {1, 0, 1}, new int[] {1, 1, 2}, new int[] {1, 2, 3}, new int[] {0, 2, 1},
            new int[] {1, 0, 0});
        CHECK.due("like ahead of all", office.like(4, 0, 99999), 0);
        CHECK.due("like(5, 0, 0)", office.like(5, 0, 0), 1);
        pair(office, 0, 0, 4, 1, 0);
        CHECK.due("like(5, 0, 1)", office.like(5, 0, 1), 2);
        pair(office, 0, 0, 4, 1, 0);
        pair(office, 1, 1, 2, 2, 3);
        CHECK.due("like(5, 0, 9)", office.like(5, 0, 9), 2);
        CHECK.due("like(5, 0, 10)", office.like(5, 0, 10), 4);
        pair(office, 0, 0, 1, 2, 5);
        pair(office, 1, 0, 4, 1, 0);
        pair(office, 2, 1, 2, 2, 3);
        pair(office, 3, 1, 4, 1, 0);
        CHECK.due("pair(4, 0)", office.pair(4, 0), -1);
        CHECK.due("like(1199, 0, 99999)", office.like(1199, 0, 99999), 6);
        PayScales zero = office(new int[] {1, 0, 0}, new int[] {1, 0, 3}, new int[] {1, 0, 3});
        CHECK.due("like(5, 0, 0) of 0", zero.like(5, 0, 0), 2);
        pair(zero, 0, 0, 1, 0, 1);
        pair(zero, 1, 0, 2, 0, 1);
    }

    private static void pairsAsTheyWereThen() {
        PayScales office = office(new int[] {1, 0, 1}, new int[] {1, 0, 2});
        CHECK.due("like(5, 0, 0)", office.like(5, 0, 0), 1);
        office.pass(7);
        office.note(1, 1, 0, 1);
        pair(office, 0, 0, 1, 2, 5);
        CHECK.due("like with a wrong span", office.like(5, 7, -1), -1);
        pair(office, 0, 0, 1, 2, 5);
        CHECK.due("like as known on 6", office.like(5, 6, 0), 1);
        CHECK.due("like as known on 7", office.like(5, 7, 0), 0);
        CHECK.due("pair(0, 0) of none", office.pair(0, 0), -1);
    }

    private static void allPairs() {
        PayScales office = new PayScales();
        Texts.agree(office, "plus a A>0=1;plus b A>1=1;plus c A>2=1;plus d A>3=1;plus e A>4=1;plus f A>5=1;plus g A>6=1;", 0);
        for (int post = 0; post < 8; post++) {
            office.post(post);
            office.note(post, 6, 0, 1);
            office.note(post, 0, 0, post);
        }
        CHECK.due("like of eight", office.like(0, 0, 0), 28);
        pair(office, 27, 6, 7, 6, 7);
        pair(office, 13, 2, 3, 2, 3);
        pair(office, 14, 2, 4, 1, 2);
    }

    private static void wrongInputs() {
        PayScales office = office(new int[] {1, 0, 1}, new int[] {1, 0, 2});
        int[][] refused = {{-1, 0, 0}, {1200, 0, 0}, {0, -1, 0}, {0, 1, 0}, {0, 0, -1}, {0, 0, 100000},
            {Integer.MIN_VALUE, 0, 0}, {0, 0, Integer.MAX_VALUE}};
        for (int[] row : refused) {
            CHECK.due("like" + java.util.Arrays.toString(row), office.like(row[0], row[1], row[2]), -1);
        }
        CHECK.due("pair ahead of a like", office.pair(0, 0), -1);
        CHECK.due("like(5, 0, 99999)", office.like(5, 0, 99999), 1);
        int[] odd = {-1, 4, Integer.MIN_VALUE, Integer.MAX_VALUE};
        for (int what : odd) {
            CHECK.due("pair(0, " + what + ")", office.pair(0, what), -1);
            CHECK.due("pair(" + what + ", 0)", office.pair(what, 0), -1);
        }
        CHECK.due("pair(1, 0)", office.pair(1, 0), -1);
    }
}
