/** The edges of promises 2 feed, 3 agree, 4 fault: a test for each sentence that names one. */
public final class TapeEdgeTest {
    private static final Check CHECK = new Check("TapeEdgeTest");
    private static final int BLANKS = 0x20202020;
    private static final int WRONG = 0x23232323;

    private TapeEdgeTest() {
    }

    public static void main(String[] args) {
        feedTellsHowManyThereAre();
        feedRefusesBeyond2000();
        feedBringsNoneIfRefused();
        feedBringsFourOfEachTheHighestFirst();
        feedBringsBytesAbove127();
        agreeOfNoByte();
        agreeOfAllBytes();
        agreeRefusesOtherN();
        agreeReadsTheFirstNBytes();
        agreeEmptiesTheTape();
        agreeWithAFaultEmptiesTheTape();
        agreeForgetsOldBytes();
        agreeOnTheFirstAndTheLastDay();
        agreeRefusesOtherDays();
        agreeTakesTwelve();
        agreeWithAFaultTakesNoNumber();
        agreeOfAThirteenthLeavesAll();
        agreeThatIsRefusedLeavesTheTape();
        faultAheadOfEveryAgree();
        faultOfTheLatestThatWasNotRefused();
        faultOfAnotherWhat();
        CHECK.end();
    }

    /** Promise 2: "how many it has". */
    private static void feedTellsHowManyThereAre() {
        PayScales office = new PayScales();
        CHECK.due("the first feed", office.feed(0, 0, 0, 0, 0), 20);
        CHECK.due("the second feed", office.feed(-1, -1, -1, -1, -1), 40);
    }

    private static void fill(PayScales office) {
        for (int i = 0; i < 99; i++) {
            office.feed(BLANKS, BLANKS, BLANKS, BLANKS, BLANKS);
        }
        Texts.feed(office, "   gap 7 ; step 9 ; ");
    }

    /** Promise 2: "NONE .. if it would have more than 2000". */
    private static void feedRefusesBeyond2000() {
        PayScales office = new PayScales();
        for (int i = 1; i <= 98; i++) {
            office.feed(BLANKS, BLANKS, BLANKS, BLANKS, BLANKS);
        }
        CHECK.due("feed up to 1980", office.feed(BLANKS, BLANKS, BLANKS, BLANKS, BLANKS), 1980);
        CHECK.due("feed up to 2000", office.feed(BLANKS, BLANKS, BLANKS, BLANKS, BLANKS), 2000);
        CHECK.due("feed beyond 2000", office.feed(BLANKS, BLANKS, BLANKS, BLANKS, BLANKS), -1);
        CHECK.due("feed beyond 2000 again", office.feed(0, 0, 0, 0, 0), -1);
        CHECK.due("agree(2000, 0)", office.agree(2000, 0), 0);
        CHECK.due("feed behind it", office.feed(BLANKS, BLANKS, BLANKS, BLANKS, BLANKS), 20);
    }

    /** Promise 2: "NONE, and none come". */
    private static void feedBringsNoneIfRefused() {
        PayScales office = new PayScales();
        fill(office);
        CHECK.due("feed beyond 2000", office.feed(WRONG, WRONG, WRONG, WRONG, WRONG), -1);
        CHECK.due("agree(2001, 0)", office.agree(2001, 0), -2);
        CHECK.due("agree(2020, 0)", office.agree(2020, 0), -2);
        CHECK.due("agree(2000, 0)", office.agree(2000, 0), 0);
        CHECK.due("its lines", office.count(4), 2);
        Twins.stayAlike(CHECK, "a feed beyond 2000", full -> {
            Twins.tellMuch(full);
            full.agree(0, 0);
            fill(full);
        }, full -> CHECK.due("feed beyond 2000", full.feed(WRONG, 0, -1, 1, 2), -1));
    }

    /** Promise 2: "four of each number, the highest first". */
    private static void feedBringsFourOfEachTheHighestFirst() {
        for (int at = 0; at < 20; at++) {
            int[] numbers = {BLANKS, BLANKS, BLANKS, BLANKS, BLANKS};
            int shift = 24 - at % 4 * 8;
            numbers[at / 4] = BLANKS & ~(255 << shift) | '#' << shift;
            PayScales office = new PayScales();
            office.feed(numbers[0], numbers[1], numbers[2], numbers[3], numbers[4]);
            CHECK.due("agree of a # at " + at, office.agree(20, 0), -1);
            CHECK.due("its place", office.fault(1), at);
        }
    }

    /** Promise 2: bytes of negative numbers, and bytes that are themselves above 127, are none TOKENS. */
    private static void feedBringsBytesAbove127() {
        for (int high = 128; high < 256; high++) {
            PayScales office = new PayScales();
            office.feed(high << 24 | 0x00202020, BLANKS, BLANKS, BLANKS, BLANKS);
            CHECK.due("agree of the byte " + high, office.agree(20, 0), -1);
            CHECK.due("its fault", office.fault(0), 1);
            CHECK.due("its place", office.fault(1), 0);
        }
    }

    /** Promise 3: "The TAPE's first n bytes": none of them. */
    private static void agreeOfNoByte() {
        PayScales office = new PayScales();
        CHECK.due("agree(0, 0) of the empty tape", office.agree(0, 0), 0);
        CHECK.due("count(4)", office.count(4), 0);
        office.feed(WRONG, WRONG, WRONG, WRONG, WRONG);
        CHECK.due("agree(0, 0) of a tape that is wrong", office.agree(0, 0), 1);
        CHECK.due("fault(0)", office.fault(0), 0);
        CHECK.due("the tape is empty then", office.feed(0, 0, 0, 0, 0), 20);
    }

    /** Promise 3: "The TAPE's first n bytes": all of them. */
    private static void agreeOfAllBytes() {
        PayScales office = new PayScales();
        Texts.feed(office, "gap 1; step 2;     #");
        CHECK.due("agree(20, 0) of 20", office.agree(20, 0), -1);
        CHECK.due("the last byte is read", office.fault(1), 19);
        fill(office);
        CHECK.due("agree(2000, 0) of 2000", office.agree(2000, 0), 0);
    }

    /** Promise 3: "-2 .. no such n". */
    private static void agreeRefusesOtherN() {
        PayScales empty = new PayScales();
        CHECK.due("agree(1, 0) of the empty tape", empty.agree(1, 0), -2);
        CHECK.due("agree(-1, 0) of the empty tape", empty.agree(-1, 0), -2);
        PayScales office = new PayScales();
        Texts.feed(office, "gap 1;");
        for (int n : Edges.outside(0, 20)) {
            CHECK.due("agree(" + n + ", 0) of 20", office.agree(n, 0), -2);
        }
        CHECK.due("count(1)", office.count(1), 0);
        CHECK.due("agree(20, 0)", office.agree(20, 0), 0);
    }

    /** Promise 3: "The TAPE's first n bytes .. are the TEXT". */
    private static void agreeReadsTheFirstNBytes() {
        PayScales office = new PayScales();
        Texts.feed(office, "gap 1;#");
        CHECK.due("agree(6, 0) ahead of what is wrong", office.agree(6, 0), 0);
        Texts.feed(office, "gap 1;#");
        CHECK.due("agree(7, 0) with it", office.agree(7, 0), -1);
        CHECK.due("its place", office.fault(1), 6);
        Texts.feed(office, "gap 1;");
        CHECK.due("agree(5, 0) without the ;", office.agree(5, 0), -1);
        CHECK.due("its place", office.fault(1), 5);
        Texts.feed(office, "gap 123;");
        CHECK.due("agree(6, 0) within a number", office.agree(6, 0), -1);
        CHECK.due("its place", office.fault(1), 6);
    }

    /** Promise 3: "(it is empty then)". */
    private static void agreeEmptiesTheTape() {
        PayScales office = new PayScales();
        Texts.feed(office, "gap 1;step 2;plus a=1;plus b=2;");
        CHECK.due("agree(6, 0) of 40", office.agree(6, 0), 0);
        CHECK.due("agree(1, 0) behind it", office.agree(1, 0), -2);
        CHECK.due("feed behind it", office.feed(BLANKS, BLANKS, BLANKS, BLANKS, BLANKS), 20);
    }

    /** Promise 3: "(it is empty then)", of a TEXT with a FAULT too. */
    private static void agreeWithAFaultEmptiesTheTape() {
        PayScales office = new PayScales();
        Texts.feed(office, "# gap 1;step 2;plus a=1;");
        CHECK.due("agree(10, 0) of 40", office.agree(10, 0), -1);
        CHECK.due("agree(1, 0) behind it", office.agree(1, 0), -2);
        CHECK.due("feed behind it", office.feed(BLANKS, BLANKS, BLANKS, BLANKS, BLANKS), 20);
    }

    /** Promise 3: of a TAPE that had more bytes once, those are gone. */
    private static void agreeForgetsOldBytes() {
        PayScales office = new PayScales();
        CHECK.due("a long text", Texts.agree(office, "plus a=1234; plus b=5678; plus c=90;", 0), 0);
        Texts.feed(office, "           plus a=12");
        CHECK.due("a text that ends with the tape", office.agree(20, 0), -1);
        CHECK.due("its fault", office.fault(0), 1);
        CHECK.due("its place", office.fault(1), 20);
    }

    /** Promise 3 and Terms 1: "in force from a DAY on", "DAYS 0 .. 1199". */
    private static void agreeOnTheFirstAndTheLastDay() {
        PayScales office = new PayScales();
        office.post(0);
        CHECK.due("agree of day 0", Texts.agree(office, "plus a=1;", 0), 0);
        CHECK.due("agree of day 1199", Texts.agree(office, "plus b=2;", 1199), 1);
        CHECK.due("on day 0", office.look(0, 0, 0, 14), 100);
        CHECK.due("on day 1198", office.look(0, 1198, 0, 14), 100);
        CHECK.due("on day 1199", office.look(0, 1199, 0, 14), 300);
    }

    /** Promise 3: "-2 .. no such .. DAY". */
    private static void agreeRefusesOtherDays() {
        PayScales office = new PayScales();
        Texts.feed(office, "gap 1;");
        for (int day : Edges.outside(0, 1199)) {
            CHECK.due("agree(6, " + day + ")", office.agree(6, day), -2);
        }
        CHECK.due("count(1)", office.count(1), 0);
        CHECK.due("agree(6, 1199)", office.agree(6, 1199), 0);
    }

    private static void tellAllTwelve(PayScales office) {
        for (int number = office.count(1); number < 12; number++) {
            Texts.agree(office, "plus a=" + number + ";", 3 * number);
        }
    }

    /** Terms 1: "AGREEMENT (at most 12)"; promise 3: "its number", "-2 .. there are 12". */
    private static void agreeTakesTwelve() {
        PayScales office = new PayScales();
        for (int number = 0; number < 12; number++) {
            CHECK.due("agreement " + number, Texts.agree(office, "gap 1;", 1199 - number), number);
        }
        CHECK.due("agree of a thirteenth", Texts.agree(office, "gap 1;", 0), -2);
        CHECK.due("agree of an empty thirteenth", office.agree(0, 0), -2);
        CHECK.due("count(1)", office.count(1), 12);
        CHECK.due("count(4)", office.count(4), 12);
    }

    /** Promise 3: "NONE with a FAULT": the number is not used up, and nothing comes into force. */
    private static void agreeWithAFaultTakesNoNumber() {
        PayScales office = new PayScales();
        office.post(0);
        for (int i = 0; i < 13; i++) {
            CHECK.due("agree of a fault", Texts.agree(office, "plus a=1; plus b=2; plus a=3;", 0), -1);
        }
        CHECK.due("count(1)", office.count(1), 0);
        CHECK.due("count(4)", office.count(4), 0);
        CHECK.due("nothing is in force", office.look(0, 0, 0, 14), 0);
        CHECK.due("agree without a fault", Texts.agree(office, "plus a=4;", 0), 0);
        CHECK.due("it is in force", office.look(0, 0, 0, 14), 400);
    }

    /** Promise 3: "-2, and the TAPE stays: .. there are 12": nothing else happens either. */
    private static void agreeOfAThirteenthLeavesAll() {
        Twins.stayAlike(CHECK, "a thirteenth agreement", office -> {
            Twins.tellMuch(office);
            office.agree(0, 0);
            tellAllTwelve(office);
            Texts.feed(office, "plus a=99;");
        }, office -> {
            CHECK.due("count(1)", office.count(1), 12);
            CHECK.due("agree of a thirteenth", office.agree(20, 7), -2);
            CHECK.due("agree of no byte", office.agree(0, 7), -2);
            CHECK.due("agree of one byte", office.agree(1, 7), -2);
        });
    }

    /** Promise 3: "-2, and the TAPE stays". */
    private static void agreeThatIsRefusedLeavesTheTape() {
        Twins.stayAlike(CHECK, "agree() that was -2", Twins::tellMuch, office -> {
            for (int n : Edges.outside(0, 40)) {
                CHECK.due("agree(" + n + ", 0)", office.agree(n, 0), -2);
            }
            for (int day : Edges.outside(0, 1199)) {
                CHECK.due("agree(9, " + day + ")", office.agree(9, day), -2);
                CHECK.due("agree(0, " + day + ")", office.agree(0, day), -2);
            }
        });
    }

    /** Promise 4: "its FAULT (0) .. its place (NONE)", where there was no agree() yet. */
    private static void faultAheadOfEveryAgree() {
        PayScales office = new PayScales();
        CHECK.due("fault(0)", office.fault(0), 0);
        CHECK.due("fault(1)", office.fault(1), -1);
        CHECK.due("agree(1, 0)", office.agree(1, 0), -2);
        CHECK.due("fault(0) behind -2", office.fault(0), 0);
        CHECK.due("fault(1) behind -2", office.fault(1), -1);
    }

    /** Promise 4: "Of the latest agree() that was not -2". */
    private static void faultOfTheLatestThatWasNotRefused() {
        PayScales office = new PayScales();
        CHECK.due("a step of 0", Texts.agree(office, "   step 0;", 0), -1);
        CHECK.due("no such n", office.agree(1, 0), -2);
        CHECK.due("no such day", office.agree(0, 1200), -2);
        CHECK.due("fault(0) stays", office.fault(0), 2);
        CHECK.due("fault(1) stays", office.fault(1), 8);
        CHECK.due("agree without a fault", office.agree(0, 0), 0);
        CHECK.due("fault(0) of it", office.fault(0), 0);
        CHECK.due("fault(1) of it", office.fault(1), -1);
        for (int number = 1; number < 12; number++) {
            office.agree(0, 0);
        }
        CHECK.due("a thirteenth with a fault", Texts.agree(office, "#", 0), -2);
        CHECK.due("fault(0) of the twelfth", office.fault(0), 0);
        CHECK.due("fault(1) of the twelfth", office.fault(1), -1);
    }

    /** Promise 4: "NONE for another what", while there is a fault and while there is none. */
    private static void faultOfAnotherWhat() {
        PayScales office = new PayScales();
        for (String text : new String[] {"gap 1;", "step 0;"}) {
            Texts.agree(office, text, 0);
            for (int what : Edges.outside(0, 1)) {
                CHECK.due("fault(" + what + ") of " + text, office.fault(what), -1);
            }
        }
    }
}
