/** Texts with faults: which fault, and where (~ marks the place). */
public final class FaultTest {
    private static final String EIGHT = "plain 0 0;plain 1 0;plain 2 0;plain 3 0;plain 4 0;"
            + "plain 5 0;plain 6 0;plain 7 0;";

    public static void main(String[] args) {
        fine();
        linesThatCannotStand();
        tooMuch();
        people();
        eatersAndMets();
        twice();
        twins();
        rules();
        nestedRules();
        leastOfOneToken();
        Checks.finish();
    }

    private static void fine() {
        Checks.fault("", 0, -1);
        Checks.fault("  \n \n", 0, -1);
        Checks.fault("plain0 9;child9 0;deaf\n5\n5;twin 0 0 ;", 0, -1);
        Checks.fault("forget 0999;noon 0023;", 0, -1);
        Checks.fault(EIGHT + "loaf 9 999 23 23 0 1 2 3 4 5;", 0, -1);
        Checks.fault("cuts 1and2or not 3<4;", 0, -1);
        Checks.fault("cuts 9999 ;", 0, -1);
        Checks.fault("cuts 0000;", 0, -1);
    }

    private static void linesThatCannotStand() {
        Checks.faultAtMark("~x", 1);
        Checks.faultAtMark("~;", 1);
        Checks.faultAtMark("~5", 1);
        Checks.faultAtMark("~plainly 0 0;", 1);
        Checks.faultAtMark("~Plain 0 0;", 1);
        Checks.faultAtMark("~\tplain 0 0;", 1);
        Checks.faultAtMark("~" + (char) 233, 1);
        Checks.faultAtMark("plain 0 0;~!", 1);
        Checks.faultAtMark("plain ~;", 1);
        Checks.faultAtMark("plain 0 ~;", 1);
        Checks.faultAtMark("plain 0 0 ~0;", 1);
        Checks.faultAtMark("plain 0 0 ~12345;", 1);
        Checks.faultAtMark("plain ~-1 0;", 1);
        Checks.faultAtMark("plain 0 0~", 1);
        Checks.faultAtMark("plain 0 0 \n ~", 1);
        Checks.faultAtMark("plain 0~", 1);
        Checks.faultAtMark("forget ~x;", 1);
        Checks.faultAtMark("cuts ~;", 1);
        Checks.faultAtMark("cuts~", 1);
    }

    private static void tooMuch() {
        Checks.faultAtMark("plain ~10 0;", 2);
        Checks.faultAtMark("plain 9 ~10;", 2);
        Checks.faultAtMark("plain ~00001 0;", 2);
        Checks.faultAtMark("forget ~0;", 2);
        Checks.faultAtMark("forget ~1000;", 2);
        Checks.faultAtMark("noon ~0;", 2);
        Checks.faultAtMark("noon ~24;", 2);
        String two = "plain 0 0;plain 0 0;";
        Checks.faultAtMark(two + "loaf ~10 1 0 1 0;", 2);
        Checks.faultAtMark(two + "loaf 0 ~0 0 1 0;", 2);
        Checks.faultAtMark(two + "loaf 0 ~1000 0 1 0;", 2);
        Checks.faultAtMark(two + "loaf 0 1 ~24 1 0;", 2);
        Checks.faultAtMark(two + "loaf 0 1 0 ~0 0;", 2);
        Checks.faultAtMark(two + "loaf 0 1 0 ~24 0;", 2);
        Checks.faultAtMark(two + "met 0 1 ~1000;", 2);
        Checks.faultAtMark(two + "met ~00000 1 0;", 2);
    }

    private static void people() {
        Checks.faultAtMark(EIGHT + "~plain 0 0;", 2);
        Checks.faultAtMark(EIGHT + "~deaf x;", 2);
        String loaf = "loaf 0 1 0 1 0;";
        Checks.faultAtMark("plain 0 0;" + loaf.repeat(6) + "~loaf;", 2);
        Checks.fault("plain 0 0;" + loaf.repeat(6), 0, -1);
        String met = "met 0 1 5;";
        Checks.faultAtMark("plain 0 0;plain 0 0;" + met.repeat(16) + "~met 0 1 5;", 2);
        Checks.fault("plain 0 0;plain 0 0;" + met.repeat(16), 0, -1);
    }

    private static void eatersAndMets() {
        Checks.faultAtMark("loaf 0 1 0 1 ~0;", 3);
        Checks.faultAtMark("plain 0 0;loaf 0 1 0 1 ~1;plain 0 0;", 3);
        Checks.faultAtMark("plain 0 0;loaf 0 1 0 1 ~9999;", 3);
        Checks.faultAtMark("plain 0 0;loaf 0 1 0 1 ~;", 1);
        Checks.faultAtMark("plain 0 0;loaf 0 1 0 1 0~", 1);
        Checks.faultAtMark("plain 0 0;loaf 0 1 0 1 0 ~x;", 1);
        Checks.faultAtMark("plain 0 0;loaf 0 1 0 1 0 ~0;", 4);
        Checks.faultAtMark("plain 0 0;plain 0 0;loaf 0 1 0 1 0 1 ~00;", 4);
        Checks.faultAtMark(EIGHT + "loaf 0 1 0 1 0 1 2 3 4 5 ~6;", 2);
        Checks.faultAtMark("plain 0 0;met 0 ~0 5;", 4);
        Checks.faultAtMark("plain 0 0;met 0 ~1 5;", 3);
        Checks.faultAtMark("met ~0 1 5;", 3);
        Checks.faultAtMark("plain 0 0;plain 0 0;met 0 1 ~;", 1);
    }

    private static void twice() {
        Checks.faultAtMark("forget 5;~forget 5;", 5);
        Checks.faultAtMark("noon 5;~noon;", 5);
        Checks.faultAtMark("cuts 1;noon 5;~cuts 1;", 5);
    }

    private static void twins() {
        Checks.faultAtMark("~twin 0 0;", 6);
        Checks.faultAtMark("cuts 1;~twin 0 0;", 6);
        Checks.faultAtMark("plain 0 0;twin 0 0;~twin 0 0;", 6);
        Checks.faultAtMark("plain 0 0;twin 0 0;noon 5;~twin 0 0;", 6);
        Checks.fault("plain 0 0;twin 0 0;deaf 0 0;noon 5;twin 0 0;", 0, -1);
    }

    private static void rules() {
        Checks.faultAtMark("cuts ~house;", 3);
        Checks.faultAtMark("cuts ~and;", 3);
        Checks.faultAtMark("cuts 1+~not 1;", 3);
        Checks.faultAtMark("cuts 1<~not 1;", 3);
        Checks.faultAtMark("cuts 1 or ~or;", 3);
        Checks.faultAtMark("cuts not ~and 1;", 3);
        Checks.faultAtMark("cuts (~loaf);", 3);
        Checks.faultAtMark("cuts ~slicess;", 3);
        Checks.faultAtMark("cuts 1 ~slice;", 1);
        Checks.faultAtMark("cuts 1 ~not 1;", 1);
        Checks.faultAtMark("cuts 1 ~2;", 1);
        Checks.faultAtMark("cuts 1 ~12345;", 1);
        Checks.faultAtMark("cuts ~12345;", 2);
        Checks.faultAtMark("cuts ~-1;", 1);
        Checks.faultAtMark("cuts 1+~;", 1);
        Checks.faultAtMark("cuts 1+~", 1);
        Checks.faultAtMark("cuts 1<2~<3;", 1);
        Checks.faultAtMark("cuts 1=2~<3;", 1);
        Checks.faultAtMark("cuts 1 ~(2);", 1);
        Checks.faultAtMark("cuts 1~);", 1);
        Checks.faultAtMark("cuts (1~;", 1);
        Checks.faultAtMark("cuts (~);", 1);
        Checks.faultAtMark("cuts 1~", 1);
        Checks.faultAtMark("cuts 1~%2;", 1);
    }

    private static void nestedRules() {
        Checks.fault("cuts (((((1)))));", 0, -1);
        Checks.faultAtMark("cuts ((((((~1))))));", 2);
        Checks.faultAtMark("cuts ((((((~(", 2);
        Checks.faultAtMark("cuts ((((((~slice", 2);
        Checks.faultAtMark("cuts ((((((~not", 2);
        Checks.faultAtMark("cuts ((((((~anything", 2);
        Checks.faultAtMark("cuts ((((((~12345", 2);
        Checks.faultAtMark("cuts ((((((~)", 1);
        Checks.faultAtMark("cuts ((((((~+", 1);
        Checks.faultAtMark("cuts ((((((~", 1);
        Checks.fault("cuts (1)+((1))+(((((1)))));", 0, -1);
        Checks.fault("cuts not not not not not not 1;", 0, -1);
        Checks.faultAtMark("cuts not not not not not not ~not 1;", 2);
        Checks.fault("cuts not not not not not not (not 1);", 0, -1);
        Checks.fault("cuts not not not not 1 and not not not not 1;", 0, -1);
    }

    private static void leastOfOneToken() {
        String seven = "plain 0 0;plain 1 0;plain 2 0;plain 3 0;plain 4 0;plain 5 0;plain 6 0;";
        Checks.faultAtMark(seven + "twin 0 0;~twin 0 0;", 2);
        Checks.faultAtMark(EIGHT + "loaf 0 1 0 1 0 1 2 3 4 5 ~5;", 2);
        Checks.faultAtMark(EIGHT + "loaf 0 1 0 1 0 1 2 3 4 5 ~9;", 2);
        Checks.faultAtMark(EIGHT + "loaf 0 1 0 1 0 1 2 3 4 5 ~x;", 1);
        Checks.faultAtMark("plain 0 0;met 0 ~00000 0;", 2);
    }
}
