/** The edges of promises 1, 5 pass, 6 post, 7 note, 8 look, 19 count: a test for each sentence that names one. */
public final class ToldEdgeTest {
    private static final Check CHECK = new Check("ToldEdgeTest");
    private static final int NO_LOOK = Integer.MIN_VALUE;
    private static final int HELD = 6;
    private static final int PART = 7;
    private static final int PROTECT = 8;

    private ToldEdgeTest() {
    }

    public static void main(String[] args) {
        aNewOfficeHasNothing();
        aNewOfficeStandsForItself();
        passOfNoDay();
        passUpToTheLastDay();
        passRefusesOtherNumbers();
        passRefusesBeyondTheLastDay();
        passThatIsRefusedLeavesAll();
        aPersonIs0To7();
        postRefusesOtherPersons();
        postsAreEightAtMost();
        postThatIsRefusedLeavesAll();
        noteOfEachPost();
        noteOfEachWhat();
        noteOnTheFirstAndTheLastDay();
        aFactIsUpTo9999();
        heldIs1Or0();
        aPartIsAtMostOne();
        protectIs1Or0();
        notesAre200AtMost();
        noteThatIsRefusedLeavesAll();
        allIsAsAtFirst();
        aNoteIsFromADayOn();
        theLatestDayCounts();
        ofSeveralTheOneToldLatest();
        knownIsWhatWasToldOnItOrAhead();
        lookTakesAllThatThereIs();
        lookRefuses();
        lookChangesNothing();
        countTellsEach();
        countOfAnotherWhat();
        the512thCall();
        CHECK.end();
    }

    /** Promise 1: "DAY 0, no AGREEMENTS, no POSTS, an empty TAPE"; Terms 1: "TODAY 0 at first". */
    private static void aNewOfficeHasNothing() {
        PayScales office = new PayScales();
        for (int what = 0; what <= 6; what++) {
            CHECK.due("count(" + what + ") of a new office", office.count(what), 0);
        }
        CHECK.due("fault(0)", office.fault(0), 0);
        CHECK.due("fault(1)", office.fault(1), -1);
        CHECK.due("look(0, 0, 0, 0)", office.look(0, 0, 0, 0), NO_LOOK);
        CHECK.due("pay(0, 0, 0)", office.pay(0, 0, 0), -1);
        CHECK.due("due(0, 0, 0)", office.due(0, 0, 0), -1);
        CHECK.due("paid(0, 0)", office.paid(0, 0), -1);
        CHECK.due("note(0, 6, 0, 1)", office.note(0, HELD, 0, 1), -1);
        CHECK.due("cost(0, 39, 0)", office.cost(0, 39, 0), 0);
        CHECK.due("payment(0, 0)", office.payment(0, 0), -1);
        CHECK.due("pair(0, 0)", office.pair(0, 0), -1);
        CHECK.due("met(0, 0)", office.met(0, 0), -1);
        CHECK.due("like(0, 0, 99999)", office.like(0, 0, 99999), 0);
        CHECK.due("meet(1199, 0)", office.meet(1199, 0), 0);
        CHECK.due("run()", office.run(), 0);
        CHECK.due("agree(1, 0) of the empty tape", office.agree(1, 0), -2);
        CHECK.due("the first feed", office.feed(0, 0, 0, 0, 0), 20);
        CHECK.due("the first post", office.post(0), 0);
        CHECK.due("the first note", office.note(0, 0, 0, 1), 1);
        CHECK.due("the first agreement", office.agree(0, 0), 0);
    }

    /** Promise 1: what one office is told, another does not know. */
    private static void aNewOfficeStandsForItself() {
        PayScales full = new PayScales();
        Twins.tellMuch(full);
        aNewOfficeHasNothing();
    }

    /** Promise 5: "so many DAYS later, 0 ..". */
    private static void passOfNoDay() {
        PayScales office = new PayScales();
        CHECK.due("pass(0) on day 0", office.pass(0), 0);
        CHECK.due("pass(1)", office.pass(1), 1);
        CHECK.due("pass(0) on day 1", office.pass(0), 1);
        CHECK.due("count(0)", office.count(0), 1);
        office.pass(1198);
        CHECK.due("pass(0) on day 1199", office.pass(0), 1199);
    }

    /** Promise 5: "NONE .. beyond 1199": the last day is taken, in one go and in two. */
    private static void passUpToTheLastDay() {
        CHECK.due("pass(1198)", new PayScales().pass(1198), 1198);
        PayScales office = new PayScales();
        CHECK.due("pass(1199)", office.pass(1199), 1199);
        CHECK.due("count(0)", office.count(0), 1199);
        PayScales slow = new PayScales();
        CHECK.due("pass(600)", slow.pass(600), 600);
        CHECK.due("pass(599)", slow.pass(599), 1199);
    }

    /** Promise 5: "NONE .. no such number". */
    private static void passRefusesOtherNumbers() {
        PayScales office = new PayScales();
        for (int days : Edges.outside(0, 1200)) {
            CHECK.due("pass(" + days + ") on day 0", office.pass(days), -1);
        }
        office.pass(1000);
        for (int days : Edges.outside(0, 1200)) {
            CHECK.due("pass(" + days + ") on day 1000", office.pass(days), -1);
        }
        CHECK.due("pass(-1000) on day 1000", office.pass(-1000), -1);
        CHECK.due("count(0)", office.count(0), 1000);
    }

    /** Promise 5: "NONE .. beyond 1199". */
    private static void passRefusesBeyondTheLastDay() {
        PayScales office = new PayScales();
        CHECK.due("pass(1200) on day 0", office.pass(1200), -1);
        office.pass(1);
        CHECK.due("pass(1199) on day 1", office.pass(1199), -1);
        CHECK.due("pass(1200) on day 1", office.pass(1200), -1);
        CHECK.due("pass(1198) on day 1", office.pass(1198), 1199);
        CHECK.due("pass(1) on day 1199", office.pass(1), -1);
        CHECK.due("pass(1200) on day 1199", office.pass(1200), -1);
        CHECK.due("count(0)", office.count(0), 1199);
    }

    /** Promise 5: "NONE, and nothing happens". */
    private static void passThatIsRefusedLeavesAll() {
        Twins.stayAlike(CHECK, "pass() that was NONE", Twins::tellMuch, office -> {
            for (int days : Edges.outside(0, 1200)) {
                CHECK.due("pass(" + days + ")", office.pass(days), -1);
            }
            CHECK.due("pass(1135) on day 65", office.pass(1135), -1);
            CHECK.due("pass(1200) on day 65", office.pass(1200), -1);
        });
    }

    /** Terms 2: "each of a person (0 .. 7)". */
    private static void aPersonIs0To7() {
        PayScales office = new PayScales();
        for (int person = 0; person <= 7; person++) {
            CHECK.due("post(" + person + ")", office.post(person), person);
        }
        for (int post = 0; post <= 7; post++) {
            office.note(post, HELD, post, 1);
        }
        for (int post = 0; post <= 7; post++) {
            CHECK.due("service of person " + post, office.look(post, 20, 0, 11), 20 - post);
        }
    }

    /** Promise 6: "NONE: no such person". */
    private static void postRefusesOtherPersons() {
        PayScales office = new PayScales();
        for (int person : Edges.outside(0, 7)) {
            CHECK.due("post(" + person + ")", office.post(person), -1);
        }
        CHECK.due("count(2)", office.count(2), 0);
        CHECK.due("post(7)", office.post(7), 0);
    }

    /** Terms 2: "POSTS, at most 8"; promise 6: "NONE: .. 8 there are". */
    private static void postsAreEightAtMost() {
        PayScales office = new PayScales();
        for (int post = 0; post < 8; post++) {
            CHECK.due("post " + post, office.post(5), post);
        }
        for (int person = 0; person <= 7; person++) {
            CHECK.due("a ninth, of person " + person, office.post(person), -1);
        }
        CHECK.due("count(2)", office.count(2), 8);
        CHECK.due("note of the eighth", office.note(7, HELD, 0, 1), 1);
        CHECK.due("note of a ninth", office.note(8, HELD, 0, 1), -1);
    }

    /** Promise 6: a POST that is refused is none. */
    private static void postThatIsRefusedLeavesAll() {
        Twins.stayAlike(CHECK, "post() of no such person", Twins::tellMuch, office -> {
            for (int person : Edges.outside(0, 7)) {
                CHECK.due("post(" + person + ")", office.post(person), -1);
            }
        });
        Twins.stayAlike(CHECK, "a ninth post", office -> {
            Twins.tellMuch(office);
            for (int post = 3; post < 8; post++) {
                office.post(post);
                office.note(post, HELD, post, 1);
            }
        }, office -> CHECK.due("post(1)", office.post(1), -1));
    }

    /** Promise 7: "NONE .. no such POST". */
    private static void noteOfEachPost() {
        PayScales office = new PayScales();
        for (int posts = 0; posts < 8; posts++) {
            CHECK.due("note of post " + posts + " of " + posts, office.note(posts, 0, 0, 1), -1);
            office.post(posts);
            CHECK.due("note of the latest post", office.note(posts, 0, 0, 1), posts + 1);
        }
        for (int post : Edges.outside(0, 7)) {
            CHECK.due("note of post " + post, office.note(post, 0, 0, 1), -1);
        }
        CHECK.due("count(3)", office.count(3), 8);
    }

    /** Promise 7: "what 0 .. 5: FACT A .. F, 6: HELD, 7: PART (10 p + q), 8: PROTECT", "NONE .. no such .. what". */
    private static void noteOfEachWhat() {
        for (int what = 0; what <= 8; what++) {
            PayScales office = new PayScales();
            office.post(0);
            CHECK.due("note(0, " + what + ", 0, 1)", office.note(0, what, 0, 1), 1);
            for (int other = 0; other <= 8; other++) {
                int first = other == PART ? 11 : 0;
                CHECK.due("look of " + other, office.look(0, 0, 0, other), other == what ? 1 : first);
            }
        }
        PayScales office = new PayScales();
        office.post(0);
        for (int what : Edges.outside(0, 8)) {
            for (int v : new int[] {0, 1, 11}) {
                CHECK.due("note(0, " + what + ", 0, " + v + ")", office.note(0, what, 0, v), -1);
            }
        }
        CHECK.due("count(3)", office.count(3), 0);
    }

    /** Promise 7: "NONE .. no such .. DAY". */
    private static void noteOnTheFirstAndTheLastDay() {
        PayScales office = new PayScales();
        office.post(0);
        CHECK.due("note from day 0", office.note(0, 0, 0, 5), 1);
        CHECK.due("note from day 1199", office.note(0, 0, 1199, 6), 2);
        for (int day : Edges.outside(0, 1199)) {
            CHECK.due("note from day " + day, office.note(0, 0, day, 7), -1);
        }
        CHECK.due("fact on day 0", office.look(0, 0, 0, 0), 5);
        CHECK.due("fact on day 1198", office.look(0, 1198, 0, 0), 5);
        CHECK.due("fact on day 1199", office.look(0, 1199, 0, 0), 6);
    }

    /** Terms 2: "FACTS A .. F (numbers -9999 .. 9999 ..)"; promise 7: "NONE .. no such .. v". */
    private static void aFactIsUpTo9999() {
        for (int what = 0; what <= 5; what++) {
            PayScales office = new PayScales();
            office.post(0);
            for (int v : new int[] {-9999, -9998, -1, 0, 1, 9998, 9999}) {
                office.note(0, what, 0, v);
                CHECK.due("fact " + what + " of " + v, office.look(0, 0, 0, what), v);
            }
            CHECK.due("count(3)", office.count(3), 7);
            for (int v : Edges.outside(-9999, 9999)) {
                CHECK.due("note(0, " + what + ", 0, " + v + ")", office.note(0, what, 0, v), -1);
            }
            CHECK.due("the fact stays", office.look(0, 0, 0, what), 9999);
        }
    }

    /** Terms 2: "HELD (1 or 0 ..)". */
    private static void heldIs1Or0() {
        isSwitch(HELD);
    }

    /** Terms 2: "PROTECT (1 or 0 ..)". */
    private static void protectIs1Or0() {
        isSwitch(PROTECT);
    }

    private static void isSwitch(int what) {
        PayScales office = new PayScales();
        office.post(0);
        CHECK.due("note of 1", office.note(0, what, 0, 1), 1);
        CHECK.due("it is 1", office.look(0, 0, 0, what), 1);
        for (int v : Edges.outside(0, 1)) {
            CHECK.due("note(0, " + what + ", 0, " + v + ")", office.note(0, what, 0, v), -1);
        }
        CHECK.due("it is still 1", office.look(0, 0, 0, what), 1);
        CHECK.due("note of 0", office.note(0, what, 0, 0), 2);
        CHECK.due("it is 0", office.look(0, 0, 0, what), 0);
    }

    /** Terms 2: "PART (p / q, 1 <= q <= 8, 0 <= p <= q ..)": every v around them. */
    private static void aPartIsAtMostOne() {
        PayScales office = new PayScales();
        office.post(0);
        int notes = 0;
        int latest = 11;
        for (int v = -20; v <= 130; v++) {
            boolean part = v > 0 && v % 10 >= 1 && v % 10 <= 8 && v / 10 <= v % 10;
            notes += part ? 1 : 0;
            latest = part ? v : latest;
            CHECK.due("note(0, 7, 0, " + v + ")", office.note(0, PART, 0, v), part ? notes : -1);
            CHECK.due("the part behind it", office.look(0, 0, 0, PART), latest);
        }
        CHECK.due("count(3)", office.count(3), 44);
        for (int v : Edges.FAR) {
            CHECK.due("note(0, 7, 0, " + v + ")", office.note(0, PART, 0, v), -1);
        }
    }

    private static void tell200(PayScales office) {
        int posts = office.count(2);
        for (int i = office.count(3); i < 200; i++) {
            office.note(i % posts, i % 6, i, i);
        }
    }

    /** Terms 2: "200 such NOTES at most"; promise 7: "how many NOTES there are; NONE .. 200 there are". */
    private static void notesAre200AtMost() {
        PayScales office = new PayScales();
        for (int post = 0; post < 8; post++) {
            office.post(post);
        }
        for (int i = 1; i <= 200; i++) {
            CHECK.due("note " + i, office.note(i % 8, 2, 1199 - i, i), i);
        }
        for (int post = 0; post < 8; post++) {
            CHECK.due("note 201 of post " + post, office.note(post, 3, 0, 1), -1);
        }
        CHECK.due("count(3)", office.count(3), 200);
        for (int i = 1; i <= 200; i++) {
            CHECK.due("what note " + i + " told", office.look(i % 8, 1199 - i, 0, 2), i);
        }
    }

    /** Promise 7: "NONE, and nothing happens". */
    private static void noteThatIsRefusedLeavesAll() {
        Twins.stayAlike(CHECK, "note() that was NONE", Twins::tellMuch, office -> {
            for (int post : Edges.outside(0, 2)) {
                CHECK.due("note of post " + post, office.note(post, 0, 0, 3), -1);
            }
            for (int what : Edges.outside(0, 8)) {
                CHECK.due("note of what " + what, office.note(1, what, 0, 1), -1);
            }
            for (int day : Edges.outside(0, 1199)) {
                CHECK.due("note from day " + day, office.note(2, 1, day, 3), -1);
            }
            CHECK.due("a fact too great", office.note(0, 0, 0, 10000), -1);
            CHECK.due("held of 2", office.note(0, HELD, 0, 2), -1);
            CHECK.due("part of 2 by 1", office.note(0, PART, 0, 21), -1);
            CHECK.due("protect of -1", office.note(2, PROTECT, 0, -1), -1);
        });
        Twins.stayAlike(CHECK, "a 201st note", office -> {
            Twins.tellMuch(office);
            tell200(office);
        }, office -> {
            CHECK.due("note 201", office.note(0, HELD, 0, 0), -1);
            CHECK.due("note 201 of a part", office.note(2, PART, 0, 12), -1);
        });
    }

    /** Terms 2: "0 at first", "1 / 1 at first"; on all days, of each post. */
    private static void allIsAsAtFirst() {
        PayScales office = new PayScales();
        int[] first = {0, 0, 0, 0, 0, 0, 0, 11, 0};
        for (int post = 0; post < 8; post++) {
            office.post(post);
            office.note(0, 0, 0, 7);
            for (int what = post == 0 ? 1 : 0; what < first.length; what++) {
                CHECK.due("what " + what + " of post " + post + " on day 0", office.look(post, 0, 0, what), first[what]);
                CHECK.due("what " + what + " of post " + post + " on day 1199", office.look(post, 1199, 0, what), first[what]);
            }
        }
    }

    /** Terms 2: "Told of a POST from a DAY on". */
    private static void aNoteIsFromADayOn() {
        for (int what = 0; what <= 8; what++) {
            for (int from : new int[] {1, 600, 1199}) {
                PayScales office = new PayScales();
                office.post(0);
                office.note(0, what, from, 1);
                CHECK.due("what " + what + " ahead of day " + from, office.look(0, from - 1, 0, what), what == PART ? 11 : 0);
                CHECK.due("what " + what + " on day " + from, office.look(0, from, 0, what), 1);
                CHECK.due("what " + what + " on the last day", office.look(0, 1199, 0, what), 1);
            }
        }
    }

    /** Terms 2: "the NOTE with the latest DAY counts", whenever it was told. */
    private static void theLatestDayCounts() {
        for (int what = 0; what <= 8; what++) {
            PayScales office = new PayScales();
            office.post(0);
            int zero = what == PART ? 5 : 0;
            office.note(0, what, 8, 1);
            office.pass(3);
            office.note(0, what, 7, zero);
            office.note(0, what, 6, 1);
            int[] due = {office.look(0, 5, 0, what), 1, zero, 1, 1};
            for (int day = 5; day <= 9; day++) {
                CHECK.due("what " + what + " on day " + day, office.look(0, day, 3, what), due[day - 5]);
            }
        }
    }

    /** Terms 2: "of several the one told latest", on one day and on two. */
    private static void ofSeveralTheOneToldLatest() {
        for (int what = 0; what <= 8; what++) {
            PayScales office = new PayScales();
            office.post(0);
            int zero = what == PART ? 5 : 0;
            office.note(0, what, 4, zero);
            office.note(0, what, 4, 1);
            CHECK.due("what " + what + " told twice on one day", office.look(0, 4, 0, what), 1);
            office.pass(1);
            office.note(0, what, 4, zero);
            CHECK.due("what " + what + " told once more", office.look(0, 4, 1, what), zero);
            CHECK.due("what " + what + " as known ahead of it", office.look(0, 4, 0, what), 1);
        }
    }

    /** Terms 1: "KNOWN on a DAY is what was told on it or ahead of it", of NOTES and of AGREEMENTS. */
    private static void knownIsWhatWasToldOnItOrAhead() {
        for (int told : new int[] {1, 20, 1199}) {
            PayScales office = new PayScales();
            office.post(0);
            office.pass(told);
            office.note(0, 0, 5, 9);
            Texts.agree(office, "plus a=3;", 5);
            CHECK.due("the note, known on the day ahead", office.look(0, 5, told - 1, 0), 0);
            CHECK.due("the note, known on the day itself", office.look(0, 5, told, 0), 9);
            CHECK.due("the agreement, known on the day ahead", office.look(0, 5, told - 1, 14), 0);
            CHECK.due("the agreement, known on the day itself", office.look(0, 5, told, 14), 300);
            CHECK.due("known, but not yet from that day on", office.look(0, 4, told, 14), 0);
            if (office.pass(1) > 0) {
                CHECK.due("the note, known on the day behind", office.look(0, 5, told + 1, 0), 9);
                CHECK.due("the agreement, known on the day behind", office.look(0, 5, told + 1, 14), 300);
            }
        }
    }

    /** Promise 8: "what 0 .. 5 .. 15", "KNOWN at most TODAY", the first and the last POST and DAY. */
    private static void lookTakesAllThatThereIs() {
        PayScales office = new PayScales();
        int[] bare = {0, 0, 0, 0, 0, 0, 0, 11, 0, 0, -1, 0, -1, 0, 0, 0};
        for (int post = 0; post < 8; post++) {
            office.post(post);
        }
        office.pass(9);
        for (int what = 0; what < bare.length; what++) {
            for (int post : new int[] {0, 7}) {
                CHECK.due("look(" + post + ", 0, 0, " + what + ")", office.look(post, 0, 0, what), bare[what]);
                CHECK.due("look(" + post + ", 1199, 9, " + what + ")", office.look(post, 1199, 9, what), bare[what]);
            }
        }
        office.pass(1190);
        CHECK.due("look(7, 1199, 1199, 7)", office.look(7, 1199, 1199, PART), 11);
        CHECK.due("look(7, 0, 1200, 7)", office.look(7, 0, 1200, PART), NO_LOOK);
    }

    /** Promise 8: "Integer.MIN_VALUE: no such POST, DAYS (KNOWN at most TODAY), what". */
    private static void lookRefuses() {
        PayScales office = new PayScales();
        office.pass(9);
        CHECK.due("look without a post", office.look(0, 0, 0, 0), NO_LOOK);
        office.post(0);
        office.post(0);
        for (int post : Edges.outside(0, 1)) {
            CHECK.due("look of post " + post, office.look(post, 0, 0, 0), NO_LOOK);
        }
        for (int day : Edges.outside(0, 1199)) {
            CHECK.due("look on day " + day, office.look(0, day, 0, 0), NO_LOOK);
        }
        for (int known : Edges.outside(0, 9)) {
            CHECK.due("look as known on " + known, office.look(0, 0, known, 0), NO_LOOK);
        }
        for (int what : Edges.outside(0, 15)) {
            CHECK.due("look of what " + what, office.look(0, 0, 0, what), NO_LOOK);
        }
    }

    /** Promises 8, 9, 10, 13, 14: a question, refused or not, leaves all as it was. */
    private static void lookChangesNothing() {
        Twins.stayAlike(CHECK, "questions", Twins::tellMuch, office -> {
            CHECK.due("look of post 3", office.look(3, 0, 0, 0), NO_LOOK);
            CHECK.due("look on day 1200", office.look(0, 1200, 0, 11), NO_LOOK);
            CHECK.due("pay of post 3", office.pay(3, 0, 0), -1);
            CHECK.due("due of month 40", office.due(0, 40, 0), -1);
            CHECK.due("paid of month 40", office.paid(0, 40), -1);
            CHECK.due("cost of months 3 to 2", office.cost(3, 2, 0), -1);
            CHECK.due("look known on 66", office.look(0, 0, 66, 14), NO_LOOK);
            office.look(2, 1199, 0, 15);
            office.pay(2, 1199, 0);
            office.due(2, 39, 0);
            office.cost(0, 39, 0);
        });
    }

    /** Promise 19: "0 TODAY, 1 AGREEMENTS, 2 POSTS, 3 NOTES, 4 LINES .., 5 PAYMENTS .., 6 run()s": the most of each. */
    private static void countTellsEach() {
        PayScales office = new PayScales();
        Texts.agree(office, "plus a=1;" + Texts.lines(39).replace("end plus a;", "end plus y;"), 0);
        for (int number = 1; number < 12; number++) {
            office.agree(0, 0);
        }
        for (int post = 0; post < 8; post++) {
            office.post(post);
            office.note(post, HELD, 0, 1);
        }
        tell200(office);
        office.pass(1199);
        office.run();
        long[] due = {1199, 12, 8, 200, 40, 8 * 39, 1};
        for (int what = 0; what < due.length; what++) {
            CHECK.due("count(" + what + ") of a full office", office.count(what), due[what]);
        }
        CHECK.due("a second run()", office.run(), 0);
        CHECK.due("count(5) of the latest run()", office.count(5), 0);
        CHECK.due("count(6)", office.count(6), 2);
    }

    /** Promise 19: "NONE for another what". */
    private static void countOfAnotherWhat() {
        PayScales office = new PayScales();
        Twins.tellMuch(office);
        for (int what : Edges.outside(0, 6)) {
            CHECK.due("count(" + what + ")", office.count(what), -1);
        }
    }

    /** "An object is used for at most 512 calls": the last of them is answered as the first. */
    private static void the512thCall() {
        PayScales office = new PayScales();
        for (int call = 1; call <= 511; call++) {
            office.run();
        }
        CHECK.due("count(6) as call 512", office.count(6), 511);
    }
}
