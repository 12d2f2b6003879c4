/** The edges of Terms 1, TEXT, FAULTS, KEYS: a test for each sentence that names one. */
public final class TextEdgeTest {
    private static final Check CHECK = new Check("TextEdgeTest");
    /** Every line up to each of its names, with what comes behind the name. */
    private static final String[][] NAMED = {{"test ", " A<1=1;"}, {"grade ", " from 1;"}, {"scale ", ":1;"}, {"plus ", "=1;"},
        {"plus ", " A=1=1;"}, {"end test ", ";"}, {"end grade ", ";"}, {"end scale ", ";"}, {"end plus ", ";"}};
    /** Every line up to each of its numbers, with what comes behind the number. */
    private static final String[][] NUMBERED = {{"test a A<", "=1;"}, {"test a F=1=", ";"}, {"grade a from ", ";"},
        {"scale a:", ";"}, {"scale a:1,", ",3;"}, {"scale a:1,2,3,4,5,6,7,", ";"}, {"gap ", ";"}, {"plus a A>", "=1;"},
        {"plus a=", ";"}, {"plus a B<3=", ";"}, {"plus a B<", "=3%;"}};
    /** Whole lines, their tokens told apart by blanks. */
    private static final String[] WHOLE = {"test a A < 1 = 1 ;", "grade b from 2 ;", "scale c : 1 ;", "scale d : 1 , 2 , 3 ;",
        "step 4 ;", "gap 0 ;", "plus e = 5 ;", "plus f = 6 % ;", "plus g F > 7 = 8 ;", "plus h E = 9 = 999 % ;",
        "end test i ;", "end grade j ;", "end scale k ;", "end plus l ;"};
    /** What may stand behind each beginning of a line. */
    private static final String[][] CAN_STAND = {{"", "test gap end"}, {"test ", "x"}, {"test a ", "A"}, {"test a A ", "< > ="},
        {"test a A = ", "7"}, {"test a A = 1 ", "="}, {"test a A = 1 = ", "7"}, {"test a A = 1 = 1 ", ";"}, {"grade ", "x"},
        {"grade a ", "from"}, {"grade a from ", "7"}, {"grade a from 1 ", ";"}, {"scale ", "x"}, {"scale a ", ":"},
        {"scale a : ", "7"}, {"scale a : 1 ", ", ;"}, {"scale a : 1 , ", "7"}, {"scale a : 1 , 2 ", ", ;"}, {"gap ", "7"},
        {"gap 1 ", ";"}, {"plus ", "x"}, {"plus a ", "A ="}, {"plus a = ", "7"}, {"plus a = 1 ", "% ;"}, {"plus a = 1 % ", ";"},
        {"plus a A ", "< > ="}, {"plus a A = ", "7"}, {"plus a A = 1 ", "="}, {"plus a A = 1 = ", "7"},
        {"plus a A = 1 = 1 ", "% ;"}, {"plus a A = 1 = 1 % ", ";"}, {"end ", "test"}, {"end test ", "x"}, {"end test a ", ";"}};

    private TextEdgeTest() {
    }

    public static void main(String[] args) {
        anEmptyText();
        aNameIsOneSmallLetter();
        aFactIsOneOfSix();
        aNumberIs0To9999();
        aNumberThatWouldWrap();
        aRelationIsOneOfThree();
        aScaleHasEightAtMost();
        aStepIsNot0();
        anEndIsOfFourSorts();
        blanksAreTwoBytes();
        blanksBetweenAllTokens();
        lettersInARowAreOneToken();
        digitsInARowAreOneToken();
        theFirstFaultAlongTheText();
        aTokenThatIsNone();
        aTokenThatCannotStandThere();
        theLengthIfMoreMustCome();
        aPercentBehindMoreThan999();
        a41stLine();
        a41stLineIsAheadOfWhatIsWrongWithin();
        aKeyTwiceOfEverySort();
        aKeyTwiceIsBehindWhatIsWrongWithin();
        aKeyTwiceIsAheadOfASignThatLacks();
        keysOfOtherSortsAndNames();
        anEndHasTheKeyOfWhatItEnds();
        CHECK.end();
    }

    private static void taken(String text, int lines) {
        Texts.taken(CHECK, text, lines);
    }

    private static void refused(String text, int fault, int place) {
        Texts.refused(CHECK, text, fault, place);
    }

    private static boolean isLetter(int b) {
        return b >= 'a' && b <= 'z' || b >= 'A' && b <= 'Z';
    }

    private static boolean isDigit(int b) {
        return b >= '0' && b <= '9';
    }

    private static boolean isBlank(int b) {
        return b == 10 || b == 32;
    }

    /** "{ LINE ';' }": none at all. */
    private static void anEmptyText() {
        taken("", 0);
        taken(" ", 0);
        taken("\n", 0);
        taken(" \n  \n\n ", 0);
        refused(";", 1, 0);
        refused("  ;", 1, 2);
    }

    /** "NAME: one small letter": every byte in its place, and two letters. */
    private static void aNameIsOneSmallLetter() {
        for (String[] line : NAMED) {
            for (int b = 0; b < 256; b++) {
                String text = line[0] + (char) b + line[1];
                if (b >= 'a' && b <= 'z') {
                    taken(text, 1);
                } else if (!isBlank(b)) {
                    refused(text, 1, line[0].length());
                }
            }
            refused(line[0] + "aa" + line[1], 1, line[0].length());
            refused(line[0] + "zA" + line[1], 1, line[0].length());
            refused(line[0] + line[1], 1, line[0].length() + (line[1].charAt(0) == ' ' ? 1 : 0));
        }
    }

    /** "FACT: A .. F": every byte in its place, and two letters. */
    private static void aFactIsOneOfSix() {
        for (String line : new String[] {"test a ", "plus a "}) {
            for (int b = 0; b < 256; b++) {
                String text = line + (char) b + "<1=1;";
                if (b >= 'A' && b <= 'F') {
                    taken(text, 1);
                } else if (!isBlank(b) && (b != '=' || line.charAt(0) == 't')) {
                    refused(text, 1, line.length());
                }
            }
            refused(line + "AB<1=1;", 1, line.length());
            refused(line + "FF<1=1;", 1, line.length());
            refused(line + "Fa<1=1;", 1, line.length());
        }
        refused("plus a =<1=1;", 1, 8);
    }

    /** "N: digits, 0 .. 9999" and "2 an N above 9999": each N of each line. */
    private static void aNumberIs0To9999() {
        for (String[] line : NUMBERED) {
            for (String number : new String[] {"0", "1", "9", "10", "9998", "9999", "0000", "09999", "000000000009999"}) {
                taken(line[0] + number + line[1], 1);
            }
            for (String number : new String[] {"10000", "010000", "10001", "65536", "99999", "0000000000010000"}) {
                refused(line[0] + number + line[1], 2, line[0].length());
            }
            refused(line[0] + "-1" + line[1], 1, line[0].length());
            refused(line[0] + "+1" + line[1], 1, line[0].length());
            refused(line[0] + "A" + line[1], 1, line[0].length());
        }
        taken("step 1;", 1);
        taken("step 9999;", 1);
        refused("step 10000;", 2, 5);
    }

    /** "2 an N above 9999": numbers that an int or a long would take for small ones. */
    private static void aNumberThatWouldWrap() {
        String[] wrapping = {"2147483647", "2147483648", "4294967295", "4294967296", "4294967297", "4294977295",
            "9223372036854775807", "9223372036854775808", "18446744073709551615", "18446744073709551616",
            "18446744073709551617", "1" + "0".repeat(32), "1" + "0".repeat(64), "9".repeat(1500)};
        for (String number : wrapping) {
            for (String[] line : NUMBERED) {
                refused(line[0] + number + line[1], 2, line[0].length());
            }
            refused("step " + number + ";", 2, 5);
            refused("plus a=" + number + "%;", 2, 7);
        }
        taken("gap " + "0".repeat(1500) + "9999;", 1);
    }

    /** "R: < > =": every byte in its place. */
    private static void aRelationIsOneOfThree() {
        for (String line : new String[] {"test a A", "plus a A"}) {
            for (int b = 0; b < 256; b++) {
                String text = line + (char) b + "1=1;";
                if (b == '<' || b == '>' || b == '=') {
                    taken(text, 1);
                } else if (isLetter(b)) {
                    refused(text, 1, line.length() - 1);
                } else {
                    refused(text, 1, isBlank(b) ? line.length() + 1 : line.length());
                }
            }
            refused(line + "<=1=1;", 1, line.length() + 1);
            refused(line + "==1=1;", 1, line.length() + 1);
        }
    }

    private static String scale(int count) {
        StringBuilder text = new StringBuilder("scale a:1");
        for (int i = 2; i <= count; i++) {
            text.append(',').append(i);
        }
        return text.toString();
    }

    /** "N { ',' N } (8 at most)" and "2 .. a ninth N of a scale (at it)". */
    private static void aScaleHasEightAtMost() {
        for (int count = 1; count <= 8; count++) {
            taken(scale(count) + ";", 1);
        }
        refused(scale(9) + ";", 2, 24);
        refused(scale(8) + " ,\n 9;", 2, 27);
        refused(scale(10) + ";", 2, 24);
        refused(scale(9), 2, 24);
        refused(scale(8) + ",99999;", 2, 24);
        refused(scale(8) + ",;", 1, 24);
        refused(scale(8) + ",a;", 1, 24);
        refused(scale(8) + ",", 1, 24);
        refused("scale a:;", 1, 8);
        refused("scale a:,1;", 1, 8);
        refused("scale a:1,,2;", 1, 10);
    }

    /** "'step' N (not 0)" and "2 .. a step of 0". */
    private static void aStepIsNot0() {
        taken("step 1;", 1);
        taken("step 01;", 1);
        refused("step 0;", 2, 5);
        refused("step   00;", 2, 7);
        refused("step 0", 2, 5);
        refused("step 0 0;", 2, 5);
        refused("step ;", 1, 5);
        refused("step a;", 1, 5);
        refused("step 1 2;", 1, 7);
        refused("step 1%;", 1, 6);
    }

    /** "'end' ( 'test' | 'grade' | 'scale' | 'plus' ) NAME". */
    private static void anEndIsOfFourSorts() {
        for (String sort : new String[] {"test", "grade", "scale", "plus"}) {
            taken("end " + sort + " a;", 1);
            taken("end " + sort + " z;", 1);
            refused("end " + sort + ";", 1, 4 + sort.length());
            refused("end " + sort + " a b;", 1, 7 + sort.length());
        }
        for (String other : new String[] {"step", "gap", "end", "from", "a", "tests", "Test", "1", ";", "step a", "gap a"}) {
            refused("end " + other + " a;", 1, 4);
        }
    }

    /** "Blanks 10, 32": every byte between two tokens, ahead of all and behind all. */
    private static void blanksAreTwoBytes() {
        for (int b = 0; b < 256; b++) {
            char c = (char) b;
            if (isBlank(b)) {
                taken(c + "gap" + c + c + "7" + c + ";" + c, 1);
            } else {
                refused("gap 7;" + c, 1, 6);
                refused(c + "gap 7;", 1, 0);
                if (isDigit(b)) {
                    taken("gap" + c + "7;", 1);
                } else {
                    refused("gap" + c + "7;", 1, isLetter(b) ? 0 : 3);
                }
            }
        }
    }

    /** "Blanks": none, one and many between all tokens that are told apart without them. */
    private static void blanksBetweenAllTokens() {
        for (String line : WHOLE) {
            taken(line, 1);
            taken(line.replace(" ", "\n"), 1);
            taken("\n" + line.replace(" ", " \n  ") + "  ", 1);
        }
        taken("test a A<1=1;grade b from2;scale c:1;scale d:1,2;step4;gap0;plus e=5;plus f=6%;plus g F>7=8;end plus l;", 10);
    }

    /** "TOKENS: words and letters (letters in a row)". */
    private static void lettersInARowAreOneToken() {
        refused("testa A<1=1;", 1, 0);
        refused("test aA<1=1;", 1, 5);
        refused("gradea from 1;", 1, 0);
        refused("grade afrom 1;", 1, 6);
        refused("scalea:1;", 1, 0);
        refused("plusa=1;", 1, 0);
        refused("plus aA=1=1;", 1, 5);
        refused("endtest a;", 1, 0);
        refused("end testa;", 1, 4);
        refused("stepgap 1;", 1, 0);
        refused("ga p 1;", 1, 0);
        refused("grade a fr om 1;", 1, 8);
        refused("GAP 1;", 1, 0);
        refused("gaP 1;", 1, 0);
    }

    /** "TOKENS: .. digits": blanks end a number, letters and signs do too. */
    private static void digitsInARowAreOneToken() {
        refused("gap 1 2;", 1, 6);
        refused("gap 9999 9;", 1, 9);
        refused("gap 1a;", 1, 5);
        refused("gap 1.5;", 1, 5);
        refused("scale a:1 2;", 1, 10);
        taken("gap1;", 1);
    }

    /** "FAULTS, the first one along the text". */
    private static void theFirstFaultAlongTheText() {
        refused("gap x; gap 10000; #", 1, 4);
        refused("gap 10000; gap x; #", 2, 4);
        refused("gap 1; gap 2; gap x;", 3, 7);
        refused("gap 1; step 0; gap 2;", 2, 12);
        refused("gap 1; # gap 2;", 1, 7);
        refused("test a G<10000=10000;", 1, 7);
        refused("test a A<10000=x;", 2, 9);
        refused("plus a=10000 x", 2, 7);
        refused("scale a:1,10000,x;", 2, 10);
        refused("scale a:x,10000;", 1, 8);
    }

    /** "1 a TOKEN that is none": every byte that no line uses, wherever it stands. */
    private static void aTokenThatIsNone() {
        for (int b = 0; b < 256; b++) {
            boolean used = isLetter(b) || isDigit(b) || isBlank(b) || ";<>=:,%".indexOf(b) >= 0;
            if (!used) {
                refused((char) b + "", 1, 0);
                refused("gap " + (char) b + ";", 1, 4);
                refused("gap 1 " + (char) b + ";", 1, 6);
                refused("plus a " + (char) b + ";", 1, 7);
                refused("scale a:1" + (char) b, 1, 9);
            }
        }
    }

    /** "1 a TOKEN that .. can't stand there": behind each beginning of a line, a token of every kind. */
    private static void aTokenThatCannotStandThere() {
        String[] kinds = {"gap", "test", "from", "end", "x", "A", "G", "7", ";", "<", ">", "=", ":", ",", "%", "#"};
        for (String[] row : CAN_STAND) {
            for (String kind : kinds) {
                if (!(" " + row[1] + " ").contains(" " + kind + " ")) {
                    refused(row[0] + kind + " ;", 1, row[0].length());
                    refused("step 1 ; " + row[0] + kind, 1, 9 + row[0].length());
                }
            }
        }
    }

    /** "(the length, if more must come)": each line, cut behind each of its tokens, with blanks and without. */
    private static void theLengthIfMoreMustCome() {
        for (String line : WHOLE) {
            for (int at = line.indexOf(' '); at >= 0; at = line.indexOf(' ', at + 1)) {
                String cut = line.substring(0, at);
                refused(cut, 1, cut.length());
                refused(cut + " \n ", 1, cut.length() + 3);
                refused("step 1; " + cut.replace("step", "gap"), 1, 8 + cut.replace("step", "gap").length());
            }
        }
    }

    /** "2 .. a % behind an N above 999 (at the %)". */
    private static void aPercentBehindMoreThan999() {
        for (String line : new String[] {"plus a=", "plus a A<9999="}) {
            taken(line + "0%;", 1);
            taken(line + "998%;", 1);
            taken(line + "999%;", 1);
            taken(line + "0999 %;", 1);
            taken(line + "1000;", 1);
            taken(line + "9999;", 1);
            refused(line + "1000%;", 2, line.length() + 4);
            refused(line + "1000 \n %;", 2, line.length() + 7);
            refused(line + "9999%;", 2, line.length() + 4);
            refused(line + "1000%", 2, line.length() + 4);
            refused(line + "10000%;", 2, line.length());
            refused(line + "999%%;", 1, line.length() + 4);
            refused(line + "%;", 1, line.length());
        }
        refused("plus a A<999%=1;", 1, 12);
        refused("test a A<1=1%;", 1, 12);
        refused("gap 1%;", 1, 5);
    }

    /** "2 .. a 41st LINE (at its first TOKEN)". */
    private static void a41stLine() {
        taken(Texts.lines(39), 39);
        taken(Texts.lines(40), 40);
        taken(Texts.lines(40) + " \n ", 40);
        int length = Texts.lines(40).length();
        refused(Texts.lines(41), 2, length);
        refused(Texts.lines(52), 2, length);
        for (String line : WHOLE) {
            refused(Texts.lines(40) + "  " + line, 2, length + 2);
        }
    }

    /** "the first one along the text": the 41st LINE's first TOKEN is ahead of all else of it, and of its KEY. */
    private static void a41stLineIsAheadOfWhatIsWrongWithin() {
        String forty = Texts.lines(40);
        refused(forty + "gap", 2, forty.length());
        refused(forty + "gap x;", 2, forty.length());
        refused(forty + "step 0;", 2, forty.length());
        refused(forty + "end test a;", 2, forty.length());
        refused(forty + "test a A<1=1", 2, forty.length());
        refused(Texts.lines(39) + "gap x;gap 1;", 1, Texts.lines(39).length() + 4);
        refused(Texts.lines(39) + "end test a;gap 1;", 3, Texts.lines(39).length());
    }

    /** "3 a LINE of a KEY that the text has already (at its first TOKEN ..)". */
    private static void aKeyTwiceOfEverySort() {
        for (String line : WHOLE) {
            taken(line, 1);
            refused(line + line, 3, line.length());
            refused(line + " " + line, 3, line.length() + 1);
            String between = line.startsWith("step") ? "gap 1;" : "step 1;";
            refused(line + between + "\n" + line, 3, line.length() + between.length() + 1);
        }
        refused("step 1;step 2;", 3, 7);
        refused("test a A<1=1;test a F>2=2;", 3, 13);
        refused("plus a=1;plus a A=1=2%;", 3, 9);
    }

    /** "(.. behind what is wrong within it ..)". */
    private static void aKeyTwiceIsBehindWhatIsWrongWithin() {
        refused("gap 1;gap x;", 1, 10);
        refused("gap 1;gap", 1, 9);
        refused("gap 1;gap 10000;", 2, 10);
        refused("step 1;step 0;", 2, 12);
        refused("test a A<1=1;test a A<1=10000;", 2, 24);
        refused("test a A<1=1;test a G<1=1;", 1, 20);
        refused("grade a from 1;grade a from x;", 1, 28);
        refused("grade a from 1;grade a;", 1, 22);
        refused("scale a:1;scale a:1,2,3,4,5,6,7,8,9;", 2, 34);
        refused("scale a:1;scale a:1,;", 1, 20);
        refused("plus a=1;plus a=1000%;", 2, 20);
        refused("plus a=1;plus a A=1;", 1, 19);
        refused("end test a;end test A;", 1, 20);
    }

    /** "(.. ahead of a ; that lacks)". */
    private static void aKeyTwiceIsAheadOfASignThatLacks() {
        for (String line : WHOLE) {
            String open = line.substring(0, line.length() - 2);
            refused(line + open, 3, line.length());
            refused(line + open + "  ", 3, line.length());
            refused(line + open + " #", 3, line.length());
            refused(line + open + " step", 3, line.length());
            refused(open + " " + line, 1, line.length() - 1);
        }
        refused("plus a=1;plus a=1%%;", 3, 9);
        refused("scale a:1;scale a:1 2;", 3, 10);
    }

    /** "KEYS: sort .. and NAME (step, gap: a)": others stand beside one another. */
    private static void keysOfOtherSortsAndNames() {
        taken("test a A<1=1;grade a from 1;scale a:1;step 1;gap 1;plus a=1;", 6);
        taken("test a A<1=1;test b A<1=1;test z A<1=1;", 3);
        taken("grade a from 1;grade b from 1;scale a:1;scale b:1;plus a=1;plus z=1;", 6);
        taken("end test a;end grade a;end scale a;end plus a;step 1;gap 1;", 6);
    }

    /** "an end has the KEY of what it ends". */
    private static void anEndHasTheKeyOfWhatItEnds() {
        String[][] both = {{"test a A<1=1;", "end test a;"}, {"grade a from 1;", "end grade a;"}, {"scale a:1;", "end scale a;"},
            {"plus a=1;", "end plus a;"}};
        for (String[] pair : both) {
            refused(pair[0] + pair[1], 3, pair[0].length());
            refused(pair[1] + pair[0], 3, pair[1].length());
            refused(pair[1] + pair[1], 3, pair[1].length());
            taken(pair[0] + pair[1].replace(" a", " b"), 2);
            for (String[] other : both) {
                if (other != pair) {
                    taken(pair[0] + other[1], 2);
                }
            }
        }
    }
}
