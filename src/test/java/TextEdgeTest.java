/** The bounds that the document's Terms name for a text: each sentence by itself (~ marks a fault's place). */
public final class TextEdgeTest {
    private static final String TWO = "plain 0 0;plain 1 0;";
    private static final String EIGHT = "plain 0 0;plain 1 0;plain 2 0;plain 3 0;plain 4 0;"
            + "plain 5 0;plain 6 0;plain 7 0;";

    public static void main(String[] args) {
        people();
        numbersOfPeople();
        twins();
        loaves();
        numbersOfLoaves();
        eaters();
        meetings();
        forgetAndNoon();
        lengthOfText();
        words();
        numbers();
        signsAndBlanks();
        linesInAnyOrder();
        operators();
        ranks();
        wraps();
        truths();
        values();
        leastOfOneToken();
        tooMuch();
        Checks.finish();
    }

    /** A number in a line's hole (%): fine from low to high, fault 2 just outside of it. */
    private static void range(String line, int low, int high) {
        int hole = line.indexOf('%');
        Checks.fault(line.replace("%", String.valueOf(low)), 0, -1);
        Checks.fault(line.replace("%", String.valueOf(high)), 0, -1);
        Checks.fault(line.replace("%", String.valueOf(high + 1)), 2, hole);
        Checks.fault(line.replace("%", "9999"), 2, hole);
        Checks.fault(line.replace("%", "10000"), 2, hole);
        if (low > 0) {
            Checks.fault(line.replace("%", String.valueOf(low - 1)), 2, hole);
        }
        Checks.fault(line.replace("%", "-1"), 1, hole);
    }

    private static void people() {
        Checks.sentence("PEOPLE 0, 1 .. (at most 8)");
        Checks.due("none", Checks.town("").count(0), 0);
        StrangeKnives x = Checks.town(EIGHT);
        Checks.due("eight", x.count(0), 8);
        Checks.due("the last one", x.person(7, 1), 7);
        Checks.noSuch("a ninth one", () -> x.person(8, 1));
        for (String kind : new String[] {"plain", "child", "deaf", "twin"}) {
            Checks.faultAtMark(EIGHT + "~" + kind + " 0 0;", 2);
        }
        Checks.faultAtMark(EIGHT + "forget 5;~plain", 2);
        Checks.sentence("a KIND (0 plain, 1 child, 2 deaf, 3 twin)");
        StrangeKnives y = Checks.town("plain 0 0;child 0 0;deaf 0 0;twin 0 0;");
        for (int kind = 0; kind <= 3; kind++) {
            Checks.due("kind", y.person(kind, 0), kind);
        }
    }

    private static void numbersOfPeople() {
        Checks.sentence("a HOUSE (0 to 9, side by side)");
        range("plain % 0;", 0, 9);
        range("child % 0;", 0, 9);
        range("deaf % 0;", 0, 9);
        range("plain 0 0;twin % 0;", 0, 9);
        range("plain 0 0;loaf % 1 0 1 0;", 0, 9);
        Checks.due("house 9", Checks.town("plain 9 0;").person(0, 1), 9);
        StrangeKnives x = Checks.town("noon 23;plain 9 0;plain 0 0;loaf 9 5 0 23 0;");
        Checks.due("from house 9 to house 0", x.noon(), 9);
        Checks.sentence("HUNGER (0 to 9)");
        range("plain 0 %;", 0, 9);
        range("plain 0 0;twin 0 %;", 0, 9);
        Checks.due("hunger 9", Checks.town("plain 0 9;").person(0, 2), 9);
    }

    private static void twins() {
        Checks.sentence("A TWIN is one with him who was told just ahead of him (not the first, nor behind a twin)");
        StrangeKnives x = Checks.town("plain 0 0;child 1 0;twin 2 0;loaf 0 5 0 1 0;deaf 3 0;noon 5;twin 4 0;");
        int[] due = {-1, 2, 1, 4, 3};
        for (int p = 0; p < due.length; p++) {
            Checks.due("whose twin is " + p, x.person(p, 3), due[p]);
        }
        Checks.faultAtMark("~twin 0 0;", 6);
        Checks.faultAtMark("noon 5;~twin 0 0;plain 0 0;", 6);
        Checks.faultAtMark("plain 0 0;twin 0 0;~twin 0 0;", 6);
        Checks.faultAtMark("plain 0 0;twin 0 0;forget 5;~twin", 6);
        Checks.sentence("they share one slice, if both eat of a loaf");
        StrangeKnives y = Checks.town("plain 0 0;twin 1 0;plain 2 0;loaf 0 60 0 1 0 1;loaf 0 60 0 1 1;"
                + "loaf 0 60 0 1 0 2;loaf 0 60 0 1 1 2 0;");
        int[] slices = {1, 1, 2, 2};
        for (int l = 0; l < slices.length; l++) {
            Checks.due("slices of " + l, y.loaf(l, 5), slices[l]);
        }
        Checks.due("both have the whole", y.slice(2, 0, 0) + y.slice(2, 0, 1), 120);
        Checks.due("one of them has a slice", y.slice(1, 2, 0), 30);
        Checks.due("both have one", y.slice(2, 3, 0) + y.slice(2, 3, 2), 60);
    }

    private static void loaves() {
        Checks.sentence("LOAVES 0, 1 .. (at most 6)");
        String loaf = "loaf 0 1 0 1 0;";
        Checks.due("none", Checks.town("plain 0 0;").count(1), 0);
        StrangeKnives x = Checks.town("plain 0 0;" + loaf.repeat(5) + "loaf 7 1 0 1 0;");
        Checks.due("six", x.count(1), 6);
        Checks.due("the last one", x.loaf(5, 0), 7);
        Checks.noSuch("a seventh one", () -> x.loaf(6, 0));
        Checks.faultAtMark("plain 0 0;" + loaf.repeat(6) + "~loaf 0 1 0 1 0;", 2);
        Checks.faultAtMark("plain 0 0;" + loaf.repeat(6) + "noon 4;~loaf", 2);
    }

    private static void numbersOfLoaves() {
        Checks.sentence("a SIZE (1 to 999)");
        range("plain 0 0;loaf 0 % 0 1 0;", 1, 999);
        Checks.due("size 999", Checks.town("plain 0 0;loaf 0 999 0 1 0;").loaf(0, 1), 999);
        Checks.sentence("BAKED (0 to 23, the hour)");
        range("plain 0 0;loaf 0 1 % 1 0;", 0, 23);
        Checks.due("baked 23", Checks.town("plain 0 0;loaf 0 1 23 1 0;").loaf(0, 2), 23);
        Checks.sentence("FRESH (1 to 23 hours)");
        range("plain 0 0;loaf 0 1 0 % 0;", 1, 23);
        Checks.due("fresh 23", Checks.town("plain 0 0;loaf 0 1 0 23 0;").loaf(0, 3), 23);
    }

    private static void eaters() {
        Checks.sentence("EATERS (1 to 6 PEOPLE, each once, as they come)");
        Checks.faultAtMark("plain 0 0;loaf 0 1 0 1~;", 1);
        Checks.due("one", Checks.town(TWO + "loaf 0 1 0 1 1;").loaf(0, 4), 2);
        StrangeKnives x = Checks.town(EIGHT + "loaf 0 21 0 1 7 2 5 0 4 3;cuts slice+1;");
        Checks.due("six", x.loaf(0, 4), 189);
        for (int i = 0; i < 6; i++) {
            Checks.due("the last comer has most", x.slice(1, 0, i), i + 1);
        }
        Checks.faultAtMark(EIGHT + "loaf 0 1 0 1 7 2 5 0 4 3 ~6;", 2);
        Checks.faultAtMark(EIGHT + "loaf 0 1 0 1 7 2 5 0 4 3 ~7;", 2);
        Checks.faultAtMark(EIGHT + "loaf 0 1 0 1 7 2 5 0 4 3 ~8;", 2);
        Checks.faultAtMark(EIGHT + "loaf 0 1 0 1 7 2 5 0 4 3~", 1);
        Checks.sentence("4 a PERSON of EATERS who was told already");
        Checks.faultAtMark(TWO + "loaf 0 1 0 1 1 ~1;", 4);
        Checks.faultAtMark(EIGHT + "loaf 0 1 0 1 7 2 5 0 4 ~7;", 4);
        Checks.fault(TWO + "loaf 0 1 0 1 1;loaf 0 1 0 1 1;", 0, -1);
        Checks.sentence("a PERSON that isn't told ahead");
        Checks.faultAtMark("loaf 0 1 0 1 ~0;plain 0 0;", 3);
        Checks.faultAtMark(TWO + "loaf 0 1 0 1 0 ~2;plain 0 0;", 3);
        Checks.fault(TWO + "loaf 0 1 0 1 0 1;plain 0 0;", 0, -1);
        Checks.faultAtMark("met ~0 1 5;plain 0 0;plain 0 0;", 3);
        Checks.faultAtMark("plain 0 0;met 0 ~1 5;plain 0 0;", 3);
        Checks.faultAtMark("plain 0 0;met ~1 1 5;", 3);
        Checks.faultAtMark("plain 0 0;met ~1 0 5;", 3);
    }

    private static void meetings() {
        Checks.sentence("MET (at most 16)");
        String met = "met 1 0 7;";
        Checks.fault(TWO + met.repeat(16), 0, -1);
        Checks.faultAtMark(TWO + met.repeat(16) + "~met 1 0 7;", 2);
        Checks.faultAtMark(TWO + met.repeat(16) + "noon 5;~met", 2);
        StrangeKnives last = Checks.town(TWO + met.repeat(15) + "met 0 1 2;");
        Checks.due("the sixteenth counts", last.met(0, 1), 2);
        Checks.sentence("so many days ahead of DAY 0 (0 to 999)");
        range(TWO + "met 0 1 %;", 0, 999);
        Checks.due("on this day", Checks.town(TWO + "met 0 1 0;").met(0, 1), 0);
        Checks.due("very long ago", Checks.town(TWO + "met 0 1 999;").met(1, 0), 999);
        Checks.sentence("the second one of MET who is the first one");
        Checks.faultAtMark(TWO + "met 0 ~0 5;", 4);
        Checks.faultAtMark(TWO + "met 1 ~0001 5;", 4);
        Checks.faultAtMark(TWO + "met 1 ~00001 5;", 2);
        Checks.sentence("(with each other they never have, whatever is told)");
        StrangeKnives x = Checks.town("plain 0 0;twin 1 0;met 0 1 3;");
        Checks.due("twins", x.met(0, 1), -1);
    }

    private static void forgetAndNoon() {
        Checks.sentence("FORGET (1 to 999 days; 365 without)");
        range("forget %;", 1, 999);
        Checks.due("without", Checks.town("noon 1;").count(2), 365);
        Checks.due("one", Checks.town("forget 1;").count(2), 1);
        Checks.due("most", Checks.town("forget 999;").count(2), 999);
        Checks.sentence("NOON (1 to 23; 12 without)");
        range("noon %;", 1, 23);
        Checks.due("without", Checks.town("forget 1;").count(3), 12);
        Checks.due("one", Checks.town("noon 1;").count(3), 1);
        Checks.due("last", Checks.town("noon 23;").count(3), 23);
        Checks.sentence("5 a second 'forget', 'noon', 'cuts'");
        Checks.faultAtMark("forget 5;plain 0 0;~forget 5;", 5);
        Checks.faultAtMark("noon 5;~noon 5;", 5);
        Checks.faultAtMark("cuts 1;~cuts 1;", 5);
        Checks.fault("forget 5;noon 5;cuts 5;", 0, -1);
        StrangeKnives x = Checks.town("forget 5;noon 5;cuts 5;");
        Checks.due("another text may tell them", Checks.tell(x, "forget 6;noon 6;cuts 6;"), 0);
        Checks.due("and without them they are as without", Checks.tell(x, ""), 0);
        Checks.due("forget", x.count(2), 365);
        Checks.due("noon", x.count(3), 12);
    }

    private static void lengthOfText() {
        Checks.sentence("A TEXT of at most 600 bytes");
        String filler = " ".repeat(600 - 10);
        Checks.fault(filler + "plain 0 0;", 0, -1);
        Checks.faultAtMark(filler + "plain 0 0~:", 1);
        Checks.faultAtMark(filler + "plain 0 00~", 1);
        Checks.fault("cuts " + "1+".repeat(296) + "1 ;", 0, -1);
        Checks.faultAtMark("cuts " + "1+".repeat(297) + "~;", 1);
        Checks.fault("cuts (1)" + "+(1)".repeat(147) + ";", 0, -1);
        Checks.fault("cuts " + "1 or ".repeat(118) + "1;", 0, -1);
        Checks.faultAtMark("~" + "p".repeat(600), 1);
        Checks.faultAtMark("forget ~" + "1".repeat(593), 2);
        Checks.sentence("(the text's length where it ends too soon)");
        Checks.faultAtMark("plain~", 1);
        Checks.faultAtMark("plain   \n~", 1);
        Checks.faultAtMark("plain 0 0~", 1);
        Checks.faultAtMark("noon 5;cuts (1~", 1);
        Checks.faultAtMark("cuts not~", 1);
        Checks.faultAtMark("cuts 1<~", 1);
        StrangeKnives x = new StrangeKnives();
        Checks.feed(x, "plain 0 0;plain 0 0;");
        Checks.due("only so many bytes count", x.town(19), 1);
        Checks.due("its length", x.fault(), 19);
    }

    private static void words() {
        Checks.sentence("words (a .. z, the longest row)");
        Checks.faultAtMark("~plaina 0 0;", 1);
        Checks.faultAtMark("~plai 0 0;", 1);
        Checks.faultAtMark("~plainplain 0 0;", 1);
        Checks.faultAtMark("cuts ~slicer;", 3);
        Checks.faultAtMark("cuts ~slicesslice;", 3);
        Checks.faultAtMark("cuts 1~andnot 1;", 1);
        Checks.faultAtMark("~PLAIN 0 0;", 1);
        Checks.faultAtMark("plain 0 0;~`", 1);
        Checks.faultAtMark("plain 0 0;~{", 1);
        Checks.fault("plain0 0;cuts 1and slice or size;", 0, -1);
    }

    private static void numbers() {
        Checks.sentence("NUMBERS (1 to 4 digits)");
        Checks.fault("plain 0 0009;", 0, -1);
        Checks.faultAtMark("plain 0 ~00009;", 2);
        Checks.fault("cuts 9999;", 0, -1);
        Checks.fault("cuts 0;", 0, -1);
        Checks.sentence("a NUMBER of 5 digits or more");
        Checks.faultAtMark("cuts ~10000;", 2);
        Checks.faultAtMark("cuts ~00000;", 2);
        Checks.faultAtMark("cuts 1+(~99999999999999999999);", 2);
        Checks.faultAtMark(TWO + "met 0 ~00001 5;", 2);
        Checks.faultAtMark(TWO + "loaf 0 1 0 1 ~00001;", 2);
        Checks.faultAtMark(TWO + "loaf 0 1 0 1 0 ~00001;", 2);
        Checks.faultAtMark("cuts 1 ~10000;", 1);
        Checks.faultAtMark("noon 5 ~10000;", 1);
        Checks.sentence("or (not in an EXPR) not as told");
        Checks.faultAtMark("noon ~24;", 2);
        Checks.fault("noon 23;cuts 24;", 0, -1);
    }

    private static void signsAndBlanks() {
        Checks.sentence("signs ; ( ) + - * / < =");
        Checks.fault("cuts(1+2-3*4/5<6);", 0, -1);
        Checks.fault("cuts(1)=1;", 0, -1);
        for (String sign : new String[] {"!", ":", ",", ".", "%", ">", "[", "]", "'", "\"", "&", "|", "~"}) {
            Checks.fault("cuts 1" + sign + "1;", 1, 6);
        }
        Checks.sentence("a TOKEN that can't stand there, or is none");
        for (int sign = 128; sign <= 255; sign++) {
            Checks.fault("noon 5;" + (char) sign, 1, 7);
        }
        Checks.sentence("blanks (32, 10) between them count for nothing");
        Checks.fault("\n plain\n\n0 \n 0\n;\n", 0, -1);
        Checks.fault("plain 0 0 ; cuts ( 1 + 2 ) ;", 0, -1);
        Checks.faultAtMark("plain 1 1 ~0;", 1);
        Checks.fault("plain 0001;", 1, 10);
        for (int sign = 0; sign < 32; sign++) {
            if (sign != 10) {
                Checks.fault("noon 5;" + (char) sign, 1, 7);
            }
        }
        Checks.fault("noon 5;" + (char) 127, 1, 7);
        Checks.fault("noon 5;" + (char) 160, 1, 7);
    }

    private static void linesInAnyOrder() {
        Checks.sentence("TOWN: LINE*");
        Checks.fault("", 0, -1);
        Checks.fault(" ", 0, -1);
        Checks.fault("\n", 0, -1);
        Checks.fault("cuts 1;noon 5;forget 5;plain 0 0;loaf 0 1 0 1 0;plain 0 0;met 1 0 0;", 0, -1);
        Checks.faultAtMark("~;", 1);
        Checks.faultAtMark("noon 5;~;", 1);
        Checks.faultAtMark("~0", 1);
        Checks.faultAtMark("noon 5 ~noon 5;", 1);
        Checks.faultAtMark("noon 5~)", 1);
        Checks.faultAtMark("~house 0 0;", 1);
        Checks.sentence("FAULTS, the first along the text");
        Checks.faultAtMark("plain ~10 10;twin;", 2);
        Checks.faultAtMark("plain ~10;cuts house;", 2);
        Checks.faultAtMark("plain 0 0;loaf 0 1 0 1 ~5 5 5;!", 3);
    }

    /** Whether a rule gives a number: the last comer has 99 of 100 then, otherwise 50. */
    private static void gives(String rule, String number) {
        StrangeKnives x = Checks.town("plain 0 0;plain 1 0;child 2 7;loaf 0 100 0 9 0 1;"
                + "cuts 1+slice*98*((" + rule + ")=(" + number + "));");
        Checks.due(rule + " gives " + number, x.slice(0, 0, 1), 99);
    }

    private static void operators() {
        Checks.sentence("From the left");
        gives("10-3-2", "5");
        gives("24/4/2", "3");
        gives("7*3/2", "10");
        gives("7/2*2", "6");
        gives("1-2+3", "2");
        gives("0 or 0 or 1", "1");
        gives("1 and 1 and 0", "0");
        Checks.sentence("/ cut down to 0");
        gives("7/2", "3");
        gives("(0-7)/2", "0-3");
        gives("7/(0-2)", "0-3");
        gives("(0-7)/(0-2)", "3");
        gives("1/2", "0");
        gives("(0-1)/2", "0");
        Checks.sentence("by 0 gives 0");
        gives("7/0", "0");
        gives("(0-7)/0", "0");
        gives("0/0", "0");
        gives("5+9/(3-3)", "5");
        gives("9/0/0", "0");
        gives("(9/0=0)+4", "5");
    }

    private static void ranks() {
        Checks.sentence("EXPR: AND ('or' AND)*");
        gives("1 or 1 and 0", "1");
        gives("0 and 1 or 1", "1");
        gives("(1 or 1) and 0", "0");
        Checks.sentence("NOT: 'not' NOT | SUM [('<' | '=') SUM]");
        gives("not 2<1", "1");
        gives("not 0=1", "1");
        gives("(not 2)<1", "1");
        gives("not 0 and 0", "0");
        gives("not 1 or 1", "1");
        gives("not not 7", "1");
        gives("not not not not not not 0", "0");
        gives("1+1<3", "1");
        gives("2=1+1", "1");
        gives("2<1*2", "0");
        Checks.faultAtMark("cuts 1<2~=1;", 1);
        Checks.faultAtMark("cuts 1=1~=1;", 1);
        Checks.fault("cuts (1<2)=1;", 0, -1);
        Checks.fault("cuts 1<2 and 1<2;", 0, -1);
        Checks.sentence("SUM: PRODUCT (('+' | '-') PRODUCT)*");
        gives("1+2*3", "7");
        gives("(1+2)*3", "9");
        gives("8-6/2", "5");
    }

    private static void wraps() {
        Checks.sentence("ints that wrap");
        gives("9999*9999*9999*9999", written(9999 * 9999 * 9999 * 9999));
        gives("0-9999*9999*9999", written(-9999 * 9999 * 9999));
        gives("(2048*2048*512)<0", "1");
        gives("2048*2048*512+2048*2048*512", "0");
        gives("(2048*2048*512-1)<0", "0");
        gives("2048*2048*512/(0-1)", "2048*2048*512");
        gives("(0-2048*2048*512)<0", "1");
        gives("4096*4096*256", "0");
    }

    /** An int, but the least, by numbers of four digits at most. */
    private static String written(int number) {
        int size = Math.abs(number);
        String sum = size / 1000000 + "*1000*1000+" + size / 1000 % 1000 + "*1000+" + size % 1000;
        return number < 0 ? "0-(" + sum + ")" : sum;
    }

    private static void truths() {
        Checks.sentence("tests, not, and, or are 1 or 0 (what isn't 0 holds)");
        gives("5 and 7", "1");
        gives("5 and 0", "0");
        gives("0 and 5", "0");
        gives("5 or 0", "1");
        gives("0 or 7", "1");
        gives("5 or 7", "1");
        gives("0 or 0", "0");
        gives("not 5", "0");
        gives("not 0", "1");
        gives("not (0-1)", "0");
        gives("(0-1) and (0-1)", "1");
        gives("0 or (0-1)", "1");
        gives("1<2", "1");
        gives("2<2", "0");
        gives("3<2", "0");
        gives("(0-1)<0", "1");
        gives("2=2", "1");
        gives("2=3", "0");
        gives("(1<2)+(1<2)", "2");
    }

    private static void values() {
        Checks.sentence("VALUES of a slice");
        gives("slice", "1");
        gives("slices", "2");
        gives("size", "100");
        gives("kind", "0");
        gives("hunger", "0");
        gives("thanked", "0");
        Checks.sentence("any word where a PART must stand that is no VALUE");
        for (String word : new String[] {"a", "house", "and", "or", "loaf", "cuts", "plain", "eaters", "slic"}) {
            Checks.faultAtMark("cuts ~" + word + ";", 3);
            Checks.faultAtMark("cuts 1+~" + word + ";", 3);
            Checks.faultAtMark("cuts (~" + word + ");", 3);
            Checks.faultAtMark("cuts 1 or ~" + word + ";", 3);
        }
        Checks.faultAtMark("cuts 2*~not 1;", 3);
        Checks.faultAtMark("cuts 2-~not 1;", 3);
        Checks.faultAtMark("cuts 2=~not 1;", 3);
        Checks.sentence("of an EXPR within 6 others (a NUMBER, any word, a parenthesis)");
        Checks.fault("cuts (((((slice)))));", 0, -1);
        Checks.fault("cuts 1+(1+(1+(1+(1+(1)))));", 0, -1);
        Checks.faultAtMark("cuts 1+(1+(1+(1+(1+(1+(~1))))));", 2);
        for (String first : new String[] {"1", "10000", "slice", "not", "and", "house", "("}) {
            Checks.faultAtMark("cuts ((((((~" + first + "))))));", 2);
        }
        for (String first : new String[] {")", ";", "+", "<", "!", ""}) {
            Checks.faultAtMark("cuts ((((((~" + first, 1);
        }
        Checks.sentence("the seventh 'not' side by side");
        String six = "not not not not not not ";
        Checks.fault("cuts " + six + "1;", 0, -1);
        Checks.faultAtMark("cuts " + six + "~not 1;", 2);
        Checks.faultAtMark("cuts 1 and " + six + "~not 1;", 2);
        Checks.fault("cuts " + six + "1 and " + six + "1 or " + six + "(" + six + "1);", 0, -1);
    }

    private static void leastOfOneToken() {
        Checks.sentence("at a TOKEN's first byte, of one TOKEN the least");
        String seven = EIGHT.substring(0, EIGHT.length() - 10);
        String sixEat = "loaf 0 1 0 1 0 1 2 3 4 5 ";
        Checks.faultAtMark(seven + "twin 0 0;~twin 0 0;", 2);
        Checks.faultAtMark(seven + "twin 0 0;noon 5;~twin 0 0;", 2);
        Checks.faultAtMark(EIGHT + sixEat + "~5;", 2);
        Checks.faultAtMark(EIGHT + sixEat + "~8;", 2);
        Checks.faultAtMark(EIGHT + sixEat + "~00000;", 2);
        Checks.faultAtMark(EIGHT + sixEat + "~slice;", 1);
        Checks.faultAtMark(TWO + "loaf 0 1 0 1 0 ~00000;", 2);
        Checks.faultAtMark("met ~00000 0 0;", 2);
        Checks.faultAtMark("cuts ((((((~house))))));", 2);
        Checks.faultAtMark("cuts ((((((~)))))));", 1);
    }

    private static void tooMuch() {
        Checks.sentence("the first TOKEN of the 9th of PEOPLE, the 7th LOAF, the 17th of MET, the 7th of EATERS");
        Checks.faultAtMark(EIGHT + "~plain !", 2);
        Checks.faultAtMark(EIGHT + "loaf 0 1 0 1 0;".repeat(6) + "~loaf !", 2);
        Checks.faultAtMark(TWO + "met 0 1 0;".repeat(16) + "~met !", 2);
        Checks.faultAtMark(EIGHT + "loaf 0 1 0 1 0 1 2 3 4 5 ~7!", 2);
        Checks.sentence("6 'twin' ahead of all others, or behind a twin");
        Checks.faultAtMark("~twin !", 6);
        Checks.faultAtMark(TWO + "twin 0 0;~twin !", 6);
        Checks.fault(TWO + "twin 0 0;plain 0 0;twin 0 0;", 0, -1);
        Checks.sentence("In quotes is what stands there, [ ] perhaps, * any number of times, | one of some");
        Checks.fault("cuts 1<1;", 0, -1);
        Checks.fault("cuts 1;", 0, -1);
        Checks.fault("cuts 1+1-1+1*1/1*1;", 0, -1);
    }
}
