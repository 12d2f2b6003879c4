/** Promises 1 a new object, 5 pass, 6 post, 7 note, 19 count, and of 8 look what was told. */
public final class ToldTest {
    private static final Check CHECK = new Check("ToldTest");

    private ToldTest() {
    }

    public static void main(String[] args) {
        aNewOffice();
        passGoesOn();
        postsAreNumbered();
        notesAreTaken();
        notesAreRefused();
        twoHundredNotes();
        theLatestNoteCounts();
        whatWasKnown();
        lookRefuses();
        countTells();
        CHECK.end();
    }

    private static void aNewOffice() {
        PayScales office = new PayScales();
        for (int what = 0; what <= 6; what++) {
            CHECK.due("count(" + what + ")", office.count(what), 0);
        }
        CHECK.due("the tape is empty", office.feed(0, 0, 0, 0, 0), 20);
        CHECK.due("payment(0, 0)", office.payment(0, 0), -1);
        CHECK.due("pair(0, 0)", office.pair(0, 0), -1);
        CHECK.due("met(0, 0)", office.met(0, 0), -1);
        CHECK.due("cost(0, 39, 0)", office.cost(0, 39, 0), 0);
        PayScales other = new PayScales();
        office.post(1);
        CHECK.due("another office has no post", other.count(2), 0);
    }

    private static void passGoesOn() {
        PayScales office = new PayScales();
        CHECK.due("pass(1)", office.pass(1), 1);
        CHECK.due("pass(0)", office.pass(0), 1);
        CHECK.due("pass(-1)", office.pass(-1), -1);
        CHECK.due("pass(1199)", office.pass(1199), -1);
        CHECK.due("pass(1201)", office.pass(1201), -1);
        CHECK.due("pass(max)", office.pass(Integer.MAX_VALUE), -1);
        CHECK.due("pass(min)", office.pass(Integer.MIN_VALUE), -1);
        CHECK.due("count(0)", office.count(0), 1);
        CHECK.due("pass(1198)", office.pass(1198), 1199);
        CHECK.due("pass(1)", office.pass(1), -1);
        CHECK.due("pass(0)", office.pass(0), 1199);
        CHECK.due("pass(1199) of another", new PayScales().pass(1199), 1199);
        CHECK.due("pass(1200) of another", new PayScales().pass(1200), -1);
    }

    private static void postsAreNumbered() {
        PayScales office = new PayScales();
        CHECK.due("post(-1)", office.post(-1), -1);
        CHECK.due("post(8)", office.post(8), -1);
        for (int post = 0; post < 8; post++) {
            CHECK.due("post " + post, office.post(7 - post / 2), post);
        }
        CHECK.due("a ninth", office.post(0), -1);
        CHECK.due("count(2)", office.count(2), 8);
    }

    private static void notesAreTaken() {
        PayScales office = new PayScales();
        office.post(0);
        int notes = 0;
        for (int what = 0; what <= 5; what++) {
            CHECK.due("fact " + what + " at first", office.look(0, 5, 0, what), 0);
            CHECK.due("least fact", office.note(0, what, 5, -9999 + what), ++notes);
            CHECK.due("greatest fact", office.note(0, what, 6, 9999 - what), ++notes);
            CHECK.due("fact " + what + " ahead", office.look(0, 4, 0, what), 0);
            CHECK.due("fact " + what, office.look(0, 5, 0, what), -9999 + what);
            CHECK.due("fact " + what + " later", office.look(0, 1199, 0, what), 9999 - what);
        }
        CHECK.due("held at first", office.look(0, 0, 0, 6), 0);
        CHECK.due("protect at first", office.look(0, 0, 0, 8), 0);
        CHECK.due("note held", office.note(0, 6, 0, 1), ++notes);
        CHECK.due("note protect", office.note(0, 8, 1199, 1), ++notes);
        CHECK.due("held", office.look(0, 0, 0, 6), 1);
        CHECK.due("protect on the last day", office.look(0, 1199, 0, 8), 1);
        CHECK.due("protect ahead of it", office.look(0, 1198, 0, 8), 0);
        for (int q = 1; q <= 8; q++) {
            for (int p = 0; p <= q; p++) {
                CHECK.due("part " + p + " by " + q, office.note(0, 7, 0, 10 * p + q), ++notes);
                CHECK.due("part", office.look(0, 0, 0, 7), 10 * p + q);
            }
        }
        CHECK.due("count(3)", office.count(3), notes);
    }

    private static void notesAreRefused() {
        PayScales office = new PayScales();
        office.post(0);
        int[][] refused = {{-1, 0, 0, 1}, {1, 0, 0, 1}, {8, 0, 0, 1}, {0, -1, 0, 1}, {0, 9, 0, 1}, {0, 0, -1, 1},
            {0, 0, 1200, 1}, {0, 0, 0, 10000}, {0, 5, 0, -10000}, {0, 0, 0, Integer.MIN_VALUE}, {0, 6, 0, 2}, {0, 6, 0, -1},
            {0, 8, 0, 2}, {0, 8, 0, -1}, {0, 7, 0, 0}, {0, 7, 0, 10}, {0, 7, 0, 21}, {0, 7, 0, 9}, {0, 7, 0, 99}, {0, 7, 0, 98},
            {0, 7, 0, -1}, {0, 7, 0, -9}, {0, 7, 0, 118}, {0, 7, 0, 80}, {0, 7, 0, Integer.MAX_VALUE},
            {0, 7, 0, Integer.MIN_VALUE}};
        for (int[] note : refused) {
            CHECK.due("note(" + java.util.Arrays.toString(note) + ")", office.note(note[0], note[1], note[2], note[3]), -1);
        }
        CHECK.due("count(3)", office.count(3), 0);
        CHECK.due("part", office.look(0, 0, 0, 7), 11);
    }

    private static void twoHundredNotes() {
        PayScales office = new PayScales();
        office.post(0);
        office.post(1);
        for (int i = 1; i <= 200; i++) {
            CHECK.due("note " + i, office.note(i % 2, i % 6, i, i), i);
        }
        CHECK.due("note 201", office.note(0, 0, 0, 1), -1);
        CHECK.due("count(3)", office.count(3), 200);
        CHECK.due("nothing happened", office.look(0, 0, 0, 0), 0);
        CHECK.due("the last", office.look(0, 200, 0, 2), 200);
    }

    private static void theLatestNoteCounts() {
        PayScales office = new PayScales();
        office.post(0);
        office.note(0, 0, 20, 2);
        office.note(0, 0, 10, 1);
        CHECK.due("told last, from an earlier day", office.look(0, 20, 0, 0), 2);
        CHECK.due("ahead of the later day", office.look(0, 19, 0, 0), 1);
        office.note(0, 0, 10, 3);
        office.note(0, 0, 20, 4);
        CHECK.due("of the same day the one told latest", office.look(0, 10, 0, 0), 3);
        CHECK.due("of the same later day, too", office.look(0, 25, 0, 0), 4);
        CHECK.due("another fact", office.look(0, 25, 0, 1), 0);
        office.post(0);
        CHECK.due("another post", office.look(1, 25, 0, 0), 0);
    }

    private static void whatWasKnown() {
        PayScales office = new PayScales();
        office.post(0);
        office.note(0, 0, 10, 1);
        office.pass(5);
        office.note(0, 0, 3, 2);
        office.note(0, 0, 10, 3);
        CHECK.due("known on 4", office.look(0, 10, 4, 0), 1);
        CHECK.due("known on 4, of day 3", office.look(0, 3, 4, 0), 0);
        CHECK.due("known on 5", office.look(0, 10, 5, 0), 3);
        CHECK.due("known on 5, of day 3", office.look(0, 3, 5, 0), 2);
        CHECK.due("known tomorrow", office.look(0, 3, 6, 0), Integer.MIN_VALUE);
    }

    private static void lookRefuses() {
        PayScales office = new PayScales();
        office.post(0);
        office.pass(10);
        int[][] refused = {{-1, 0, 0, 0}, {1, 0, 0, 0}, {0, -1, 0, 0}, {0, 1200, 0, 0}, {0, 0, -1, 0}, {0, 0, 11, 0},
            {0, 0, 0, -1}, {0, 0, 0, 16}, {Integer.MAX_VALUE, 0, 0, 0}, {0, Integer.MIN_VALUE, 0, 0}};
        for (int[] look : refused) {
            CHECK.due("look(" + java.util.Arrays.toString(look) + ")", office.look(look[0], look[1], look[2], look[3]),
                Integer.MIN_VALUE);
        }
        int[] bare = {0, 0, 0, 0, 0, 0, 0, 11, 0, 0, -1, 0, -1, 0, 0, 0};
        for (int what = 0; what < 16; what++) {
            CHECK.due("look(0, 1199, 10, " + what + ") of nothing told", office.look(0, 1199, 10, what), bare[what]);
        }
    }

    private static void countTells() {
        PayScales office = new PayScales();
        office.pass(31);
        office.post(0);
        office.post(0);
        office.post(0);
        Texts.agree(office, "plus a=1;", 0);
        Texts.agree(office, "end plus b;gap 5;", 0);
        Texts.agree(office, "no text", 0);
        office.note(0, 6, 0, 1);
        office.run();
        long[] due = {31, 2, 3, 1, 3, 1, 1};
        for (int what = 0; what < due.length; what++) {
            CHECK.due("count(" + what + ")", office.count(what), due[what]);
        }
        office.run();
        CHECK.due("count(5) of the latest run()", office.count(5), 0);
        CHECK.due("count(6)", office.count(6), 2);
        CHECK.due("count(7)", office.count(7), -1);
        CHECK.due("count(-1)", office.count(-1), -1);
    }
}
