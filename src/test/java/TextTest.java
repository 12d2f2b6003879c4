/** Promises 2 feed, 3 agree, 4 fault. */
public final class TextTest {
    private static final Check CHECK = new Check("TextTest");

    private TextTest() {
    }

    public static void main(String[] args) {
        feedFillsTheTape();
        feedBringsTheHighestByteFirst();
        agreeTakesTheFirstBytes();
        agreeRefuses();
        faultOfTheLatest();
        everyLineIsRead();
        tokensThatCannotStandThere();
        textsThatEndTooSoon();
        tooMuch();
        keysTwice();
        CHECK.end();
    }

    private static void feedFillsTheTape() {
        PayScales office = new PayScales();
        for (int bytes = 20; bytes <= 2000; bytes += 20) {
            CHECK.due("feed at " + bytes, office.feed(0, 0, 0, 0, 0), bytes);
        }
        CHECK.due("feed beyond 2000", office.feed(0, 0, 0, 0, 0), -1);
        CHECK.due("feed beyond 2000 again", office.feed(1, 2, 3, 4, 5), -1);
        CHECK.due("agree of all", office.agree(2000, 0), -1);
        CHECK.due("feed behind agree", office.feed(0, 0, 0, 0, 0), 20);
    }

    private static void feedBringsTheHighestByteFirst() {
        PayScales office = new PayScales();
        office.feed(0x67617020, 0x373b7374, 0x65702039, 0x3b202020, 0x0a0a0a0a);
        CHECK.due("agree(20, 0) of gap 7;step 9;", office.agree(20, 0), 0);
        CHECK.due("count(4)", office.count(4), 2);
        office.feed(0x67617020, 0x373b8080, 0xffffffff, 0, 0);
        CHECK.due("agree(20, 0) with bytes above 127", office.agree(20, 0), -1);
        CHECK.due("fault(1)", office.fault(1), 6);
    }

    private static void agreeTakesTheFirstBytes() {
        PayScales office = new PayScales();
        Texts.feed(office, "gap 1;step 2; no text at all");
        CHECK.due("agree(6, 0)", office.agree(6, 0), 0);
        CHECK.due("count(4)", office.count(4), 1);
        CHECK.due("agree(1, 0) of the empty tape", office.agree(1, 0), -2);
        CHECK.due("agree(0, 1199)", office.agree(0, 1199), 1);
        CHECK.due("agree of blanks", Texts.agree(office, " \n \n", 0), 2);
        CHECK.due("count(4)", office.count(4), 1);
    }

    private static void agreeRefuses() {
        PayScales office = new PayScales();
        Texts.feed(office, "gap 1;");
        CHECK.due("agree(-1, 0)", office.agree(-1, 0), -2);
        CHECK.due("agree(21, 0)", office.agree(21, 0), -2);
        CHECK.due("agree(max, 0)", office.agree(Integer.MAX_VALUE, 0), -2);
        CHECK.due("agree(6, -1)", office.agree(6, -1), -2);
        CHECK.due("agree(6, 1200)", office.agree(6, 1200), -2);
        CHECK.due("the tape stays", office.agree(6, 1199), 0);
        for (int number = 1; number < 12; number++) {
            CHECK.due("agree " + number, Texts.agree(office, "gap 1;", 0), number);
        }
        CHECK.due("a thirteenth", Texts.agree(office, "gap 1;", 0), -2);
        CHECK.due("its tape stays", office.feed(0, 0, 0, 0, 0), 40);
        CHECK.due("count(1)", office.count(1), 12);
    }

    private static void faultOfTheLatest() {
        PayScales office = new PayScales();
        CHECK.due("fault(0) ahead of all", office.fault(0), 0);
        CHECK.due("fault(1) ahead of all", office.fault(1), -1);
        CHECK.due("agree of a fault", Texts.agree(office, "gap x;", 0), -1);
        CHECK.due("the tape is empty", office.agree(1, 0), -2);
        CHECK.due("fault(0) stays", office.fault(0), 1);
        CHECK.due("fault(1) stays", office.fault(1), 4);
        CHECK.due("fault(2)", office.fault(2), -1);
        CHECK.due("fault(-1)", office.fault(-1), -1);
        CHECK.due("agree without a fault", Texts.agree(office, "gap 3;", 0), 0);
        CHECK.due("fault(0) behind it", office.fault(0), 0);
        CHECK.due("fault(1) behind it", office.fault(1), -1);
    }

    private static void everyLineIsRead() {
        fine("test a A<0=9999;test z F > 9999 = 0;test b C=5=1;", 3);
        fine("grade\na\nfrom\n0\n;grade z from9999;", 2);
        fine("scale a:1;scale b : 1,2,3,4,5,6,7,8;scale c:0 , 0;", 3);
        fine("step 1;gap 0;", 2);
        fine("plus a=1;plus b=999%;plus c A<1=9999;plus d F=0=0 %;", 4);
        fine("end test a;end grade a;end scale a;end plus a;", 4);
        fine("test a A<1=1;grade a from 1;scale a:1;step 1;gap 1;plus a=1;", 6);
        fine("step 0000000000000000000000000000009999;", 1);
        fine(Texts.lines(40), 40);
    }

    private static void tokensThatCannotStandThere() {
        wrong("#", 1, 0);
        wrong(" \tgap 1;", 1, 1);
        wrong(";", 1, 0);
        wrong("gap 1;;", 1, 6);
        wrong("Gap 1;", 1, 0);
        wrong("gapa 1;", 1, 0);
        wrong("from 1;", 1, 0);
        wrong("7;", 1, 0);
        wrong("gap -1;", 1, 4);
        wrong("gap a;", 1, 4);
        wrong("gap 1 2;", 1, 6);
        wrong("gap 1%;", 1, 5);
        wrong("step a 1;", 1, 5);
        wrong("test A A<1=1;", 1, 5);
        wrong("test ab A<1=1;", 1, 5);
        wrong("test aZ A<1=1;", 1, 5);
        wrong("test za A<1=1;", 1, 5);
        wrong("test a a<1=1;", 1, 7);
        wrong("test a G<1=1;", 1, 7);
        wrong("test a AB<1=1;", 1, 7);
        wrong("test a A:1=1;", 1, 8);
        wrong("test a A<=1=1;", 1, 9);
        wrong("test a A<1;", 1, 10);
        wrong("test a A<1=1%;", 1, 12);
        wrong("test a =1;", 1, 7);
        wrong("grade a 1;", 1, 8);
        wrong("grade a form 1;", 1, 8);
        wrong("grade a froms 1;", 1, 8);
        wrong("scale a 1;", 1, 8);
        wrong("scale a:;", 1, 8);
        wrong("scale a:1,;", 1, 10);
        wrong("scale a:1 2;", 1, 10);
        wrong("scale a:1,2,3,4,5,6,7,8,;", 1, 24);
        wrong("plus a 1;", 1, 7);
        wrong("plus a G=1=1;", 1, 7);
        wrong("plus a A=1;", 1, 10);
        wrong("plus a=1%%;", 1, 9);
        wrong("plus a=%;", 1, 7);
        wrong("end;", 1, 3);
        wrong("end end a;", 1, 4);
        wrong("end step;", 1, 4);
        wrong("end gap;", 1, 4);
        wrong("end test A;", 1, 9);
        wrong("end test a A<1=1;", 1, 11);
        wrong("gap 1;gap\u0000", 1, 9);
        wrong("gap\u0001", 1, 3);
        wrong("gap 1\u00e9;", 1, 5);
    }

    private static void textsThatEndTooSoon() {
        wrong("gap", 1, 3);
        wrong("gap  \n", 1, 6);
        wrong("gap 1", 1, 5);
        wrong("gap 1  ", 1, 7);
        wrong("test a A<1=", 1, 11);
        wrong("grade a", 1, 7);
        wrong("scale a:1,", 1, 10);
        wrong("plus a A", 1, 8);
        wrong("plus a=1%", 1, 9);
        wrong("end", 1, 3);
        wrong("end plus", 1, 8);
    }

    private static void tooMuch() {
        wrong("gap 10000;", 2, 4);
        wrong("gap 99999999999999999999999999999999;", 2, 4);
        wrong("gap 4294967297;", 2, 4);
        wrong("step 0;", 2, 5);
        wrong("step 000;", 2, 5);
        wrong("step 10000;", 2, 5);
        wrong("test a A<10000=1;", 2, 9);
        wrong("test a A<1=10000;", 2, 11);
        wrong("grade a from 10000;", 2, 13);
        wrong("scale a:1,10000;", 2, 10);
        wrong("scale a:1,2,3,4,5,6,7,8,9;", 2, 24);
        wrong("scale a:1,2,3,4,5,6,7,8,10000;", 2, 24);
        wrong("plus a=10000;", 2, 7);
        wrong("plus a=10000%;", 2, 7);
        wrong("plus a=1000%;", 2, 11);
        wrong("plus a=1000 % ;", 2, 12);
        wrong("plus a A>10000=1;", 2, 9);
        String forty = Texts.lines(40);
        wrong(forty + " gap 1;", 2, forty.length() + 1);
        wrong(forty + "gap 1 that is wrong within", 2, forty.length());
        wrong(forty + "test a A<1=1;", 2, forty.length());
        wrong(forty + "no line;", 1, forty.length());
        wrong(forty + ";", 1, forty.length());
        fine(forty + " \n", 40);
    }

    private static void keysTwice() {
        wrong("gap 1; gap 2;", 3, 7);
        wrong("step 1;step 1;", 3, 7);
        wrong("test a A<1=1;test a B<1=1;", 3, 13);
        wrong("test a A<1=1;end test a;", 3, 13);
        wrong("end plus a;plus a=1;", 3, 11);
        wrong("end plus a;end plus a;", 3, 11);
        wrong("gap 1;gap 2", 3, 6);
        wrong("gap 1;gap 2 #", 3, 6);
        wrong("plus a=1;plus a=1 x", 3, 9);
        wrong("scale a:1;scale a:1 2;", 3, 10);
        wrong("gap 1;gap x;", 1, 10);
        wrong("gap 1;gap", 1, 9);
        wrong("gap 1;gap 10000", 2, 10);
        wrong("plus a=1;plus a=1000%;", 2, 20);
        wrong("scale a:1;scale a:1,2,3,4,5,6,7,8,9;", 2, 34);
        wrong("scale a:1;scale a:1,;", 1, 20);
        wrong("gap 1;gap 2;#", 3, 6);
        wrong("gap 1;#gap 2;", 1, 6);
        fine("test a A<1=1;grade a from 1;scale a:1;plus a=1;test b A<1=1;", 5);
    }

    private static void fine(String text, int lines) {
        Texts.taken(CHECK, text, lines);
    }

    private static void wrong(String text, int fault, int place) {
        Texts.refused(CHECK, text, fault, place);
    }
}
