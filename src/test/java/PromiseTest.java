/** Each promise by hand: ordinary inputs, the edges that the document names, wrong inputs. */
public final class PromiseTest {
    /** 3 and 4 are twins; 0 and 1 know each other; 1 and 2 have met too long ago. */
    private static final String A = "plain 0 1;child 2 5;deaf 4 3;plain 6 0;twin 7 9;"
            + "met 0 1 10;met 1 2 400;loaf 0 100 2 6 0;loaf 3 31 0 5 1 3 4;cuts 1+slice*2;";

    public static void main(String[] args) {
        newObject();
        feeding();
        towns();
        townsAnew();
        counts();
        persons();
        loaves();
        meetings();
        knowing();
        twinsMeetForBoth();
        mayCut();
        slices();
        rules();
        lastComerFirst();
        cutting();
        thanking();
        fairs();
        hours();
        undoing();
        fortyActs();
        byNoon();
        byNoonSchedules();
        spent();
        familiar();
        rings();
        safeFairs();
        helpAndDoors();
        seenAndWho();
        balkedAndWhom();
        why();
        fairest();
        forgetting();
        games();
        seasons();
        images();
        Checks.finish();
    }

    // ---- promises 1 to 5

    private static void newObject() {
        StrangeKnives x = new StrangeKnives();
        int[] due = {0, 0, 365, 12, 0, 0, 0, 0, 0, 0, 0, 0, 0, 0, 0};
        for (int what = 0; what < due.length; what++) {
            Checks.due("new count(" + what + ")", x.count(what), due[what]);
        }
        Checks.due("new fault()", x.fault(), -1);
        Checks.noSuch("new person(0, 0)", () -> x.person(0, 0));
        Checks.noSuch("new loaf(0, 0)", () -> x.loaf(0, 0));
        Checks.noSuch("new carried(0)", () -> x.carried(0));
        Checks.due("new restore()", x.restore(), false);
        Checks.due("new town(0)", x.town(0), 0);
    }

    private static void feeding() {
        StrangeKnives x = new StrangeKnives();
        for (int k = 1; k <= 30; k++) {
            Checks.due("feed " + k, x.feed(0x20202020, 0x20202020, 0x20202020, 0x20202020, 0x0a0a0a0a),
                    20 * k);
        }
        Checks.due("feed 31", x.feed(0, 0, 0, 0, 0), -1);
        Checks.due("count(11)", x.count(11), 600);
        Checks.due("town(600)", x.town(600), 0);
        Checks.due("count(11) behind a town", x.count(11), 0);
        Checks.due("bytes in order", x.feed(0x666f7267, 0x65742039, 0x383b6e6f, 0x6f6e2033, 0x3b202020), 20);
        Checks.due("town(17)", x.town(17), 0);
        Checks.due("forget", x.count(2), 98);
        Checks.due("noon", x.count(3), 3);
    }

    private static void towns() {
        StrangeKnives x = new StrangeKnives();
        Checks.badArgument("town(1) of nothing", () -> x.town(1));
        Checks.badArgument("town(-1)", () -> x.town(-1));
        Checks.feed(x, "plain 0 0;");
        Checks.badArgument("town(21)", () -> x.town(21));
        Checks.due("tape stays", x.count(11), 20);
        Checks.due("town(9)", x.town(9), 1);
        Checks.due("fault()", x.fault(), 9);
        Checks.due("tape is empty", x.count(11), 0);
        Checks.badArgument("town(1) then", () -> x.town(1));
        Checks.due("fault() stays", x.fault(), 9);
        Checks.due("status", x.count(12), 1);
        Checks.due("nobody", x.count(0), 0);
        Checks.feed(x, "plain 0 0;plain 0 0;");
        Checks.due("town(10)", x.town(10), 0);
        Checks.due("one only", x.count(0), 1);
        Checks.due("fault() again", x.fault(), -1);
        Checks.due("status stays", x.count(12), 1);
    }

    private static void townsAnew() {
        StrangeKnives x = Checks.town(A);
        x.hours(25);
        x.see(0, 0, 1);
        x.balk(0, 0);
        x.image();
        Checks.due("a text with a fault", Checks.tell(x, "plain"), 1);
        Checks.due("people stay", x.count(0), 5);
        Checks.due("day stays", x.count(4), 1);
        Checks.due("acts stay", x.count(8), 1);
        Checks.due("seen stays", x.count(9), 1);
        Checks.due("image stays", x.restore(), true);
        Checks.due("status is as in the image", x.count(12), 0);
        x.undo();
        Checks.due("noon()", x.noon() >= 0, true);
        x.carried(0);
        x.hours(25);
        Checks.due("the same anew", Checks.tell(x, A), 0);
        int[] due = {5, 2, 365, 12, 0, 0, 0, 2, 0, 0, 0, 0, 0, 0, 0};
        for (int what = 0; what < due.length; what++) {
            Checks.due("anew count(" + what + ")", x.count(what), due[what]);
        }
        Checks.due("image is gone", x.restore(), false);
        Checks.noSuch("row is gone", () -> x.carried(0));
        Checks.due("undo() of nothing", x.undo(), -1);
    }

    private static void counts() {
        StrangeKnives x = Checks.town("forget 7;noon 23;" + A);
        Checks.due("forget", x.count(2), 7);
        Checks.due("noon", x.count(3), 23);
        Checks.due("couples", x.count(7), 1);
        Checks.noSuch("count(-1)", () -> x.count(-1));
        Checks.noSuch("count(15)", () -> x.count(15));
        x.cut(2, 1);
        x.cut(2, 1);
        x.hours(49);
        x.see(0, 9, 0);
        Checks.due("day", x.count(4), 2);
        Checks.due("hour", x.count(5), 1);
        Checks.due("cut", x.count(6), 1);
        Checks.due("acts", x.count(8), 2);
        Checks.due("refused acts", x.count(13), 1);
        Checks.due("refused clues", x.count(14), 1);
    }

    // ---- promises 6 to 9

    private static void persons() {
        StrangeKnives x = Checks.town(A);
        int[][] due = {{0, 0, 1, -1, 0, 2}, {1, 2, 5, -1, 0, 1}, {2, 4, 3, -1, 0, 0},
            {0, 6, 0, 4, 0, 16}, {3, 7, 9, 3, 0, 8}};
        for (int p = 0; p < 5; p++) {
            for (int what = 0; what < 6; what++) {
                Checks.due("person(" + p + ", " + what + ")", x.person(p, what), due[p][what]);
            }
        }
        Checks.noSuch("person(-1, 0)", () -> x.person(-1, 0));
        Checks.noSuch("person(5, 0)", () -> x.person(5, 0));
        Checks.noSuch("person(0, -1)", () -> x.person(0, -1));
        Checks.noSuch("person(0, 6)", () -> x.person(0, 6));
    }

    private static void loaves() {
        StrangeKnives x = Checks.town(A);
        int[][] due = {{0, 100, 2, 6, 1, 1, -1, 0}, {3, 31, 0, 5, 26, 2, -1, 4}};
        for (int l = 0; l < 2; l++) {
            for (int what = 0; what < 8; what++) {
                Checks.due("loaf(" + l + ", " + what + ")", x.loaf(l, what), due[l][what]);
            }
        }
        Checks.noSuch("loaf(-1, 0)", () -> x.loaf(-1, 0));
        Checks.noSuch("loaf(2, 0)", () -> x.loaf(2, 0));
        Checks.noSuch("loaf(0, -1)", () -> x.loaf(0, -1));
        Checks.noSuch("loaf(0, 8)", () -> x.loaf(0, 8));
    }

    private static void meetings() {
        StrangeKnives x = Checks.town("plain 0 0;plain 1 0;plain 2 0;met 0 1 9;met 1 0 5;met 0 1 7;");
        Checks.due("met(0, 1)", x.met(0, 1), 5);
        Checks.due("met(1, 0)", x.met(1, 0), 5);
        Checks.due("met(0, 2)", x.met(0, 2), -1);
        x.hours(24);
        Checks.due("met(0, 1) on the next day", x.met(0, 1), 6);
        Checks.badArgument("met(1, 1)", () -> x.met(1, 1));
        Checks.noSuch("met(3, 3)", () -> x.met(3, 3));
        Checks.noSuch("met(0, 3)", () -> x.met(0, 3));
        Checks.noSuch("met(-1, 0)", () -> x.met(-1, 0));
    }

    private static void knowing() {
        StrangeKnives x = Checks.town("plain 0 0;plain 0 0;deaf 1 0;deaf 0 0;plain 2 0;plain 3 0;"
                + "met 2 4 0;met 4 5 364;");
        Checks.due("of one house", x.knows(0, 1), true);
        Checks.due("a deaf one of one house", x.knows(3, 0), true);
        Checks.due("a deaf one who met", x.knows(2, 4), false);
        Checks.due("who met a deaf one", x.knows(4, 2), true);
        Checks.due("himself", x.knows(2, 2), true);
        Checks.due("strangers", x.knows(0, 4), false);
        x.hours(24);
        Checks.due("365 days ago", x.knows(4, 5), true);
        x.hours(24);
        Checks.due("366 days ago", x.knows(4, 5), false);
        Checks.noSuch("knows(6, 6)", () -> x.knows(6, 6));
        Checks.noSuch("knows(0, -1)", () -> x.knows(0, -1));
    }

    private static void twinsMeetForBoth() {
        StrangeKnives x = Checks.town("plain 0 0;plain 1 0;met 0 1 5;twin 2 0;met 1 2 3;"
                + "deaf 3 0;twin 4 0;");
        Checks.due("the twin told later has met, too", x.met(0, 2), 5);
        Checks.due("twins never meet", x.met(1, 2), -1);
        Checks.due("but they know each other", x.knows(1, 2), true);
        x.thank(3, 1);
        Checks.due("twins by twins", x.met(4, 2), 0);
        Checks.due("a deaf one's twin hears", x.knows(4, 2), true);
        Checks.due("a deaf one doesn't", x.knows(3, 2), false);
        Checks.due("a deaf one knows his twin", x.knows(3, 4), true);
        Checks.due("thanks of a twin", x.thank(1, 2), 1);
        Checks.due("they haven't met, still", x.met(1, 2), -1);
        Checks.due("a fair of twins", x.fair(6), 2);
        Checks.due("they haven't met by that", x.met(2, 1), -1);
    }

    // ---- promises 10 and 11

    private static void mayCut() {
        StrangeKnives x = Checks.town(A + "plain 0 0;plain 6 0;");
        int[][] due = {{1, 3}, {3, 1}, {4, 0}, {4, 1}, {4, 1}, {2, 0}, {4, 2}};
        for (int p = 0; p < 7; p++) {
            for (int l = 0; l < 2; l++) {
                Checks.due("may(" + p + ", " + l + ")", x.may(p, l), due[p][l]);
            }
        }
        x.hours(2);
        Checks.due("in the hour in which it is baked", x.may(2, 0), 0);
        x.hours(6);
        Checks.due("in the last fresh hour", x.may(2, 0), 0);
        Checks.due("the other one is stale", x.may(2, 1), 5);
        x.cut(2, 0);
        Checks.due("cut", x.may(2, 0), 6);
        x.hours(1);
        Checks.due("cut and stale", x.may(2, 0), 5);
        x.hours(15);
        Checks.due("ahead of the baking hour of the next day", x.may(2, 0), 5);
        Checks.noSuch("may(7, 0)", () -> x.may(7, 0));
        Checks.noSuch("may(0, 2)", () -> x.may(0, 2));
        StrangeKnives y = Checks.town("plain 0 0;twin 1 0;plain 1 0;loaf 0 5 0 9 0;");
        Checks.due("his twin eats", y.may(1, 0), 1);
        Checks.due("in the house of an eater's twin", y.may(2, 0), 0);
    }

    private static void slices() {
        StrangeKnives x = Checks.town(A);
        int[] plain = {7, 23, 23, 1};
        int[] deaf = {15, 15, 15, 1};
        for (int i = 0; i < 3; i++) {
            Checks.due("slice(0, 1, " + i + ")", x.slice(0, 1, i), plain[i]);
            Checks.due("slice(1, 1, " + i + ")", x.slice(1, 1, i), plain[i]);
            Checks.due("slice(2, 1, " + i + ")", x.slice(2, 1, i), deaf[i]);
        }
        Checks.due("crumbs", x.slice(0, 1, -1), plain[3]);
        Checks.due("crumbs of a deaf one", x.slice(2, 1, -1), deaf[3]);
        Checks.due("one alone gets all", x.slice(2, 0, 0), 100);
        Checks.due("no crumbs then", x.slice(2, 0, -1), 0);
        Checks.noSuch("slice(0, 1, 3)", () -> x.slice(0, 1, 3));
        Checks.noSuch("slice(0, 1, -2)", () -> x.slice(0, 1, -2));
        Checks.noSuch("slice(5, 1, 0)", () -> x.slice(5, 1, 0));
        Checks.noSuch("slice(0, 2, 0)", () -> x.slice(0, 2, 0));
        StrangeKnives y = Checks.town("plain 0 0;plain 1 0;plain 2 0;loaf 0 2 0 1 0 1 2;");
        Checks.due("too small a loaf", y.slice(0, 0, 0), 0);
        Checks.due("is all crumbs", y.slice(0, 0, -1), 2);
    }

    /** Two eat of 100: the second one's share tells the weight of the second slice, were the first 1. */
    private static void ruleGives(String rule, int last, int first) {
        StrangeKnives x = Checks.town("plain 0 0;plain 1 0;child 2 7;loaf 0 100 0 9 0 1;cuts "
                + rule + ";");
        Checks.due(rule + " for the last comer", x.slice(0, 0, 1), last);
        Checks.due(rule + " for the first one", x.slice(0, 0, 0), first);
    }

    private static void rules() {
        ruleGives("1+slice*98", 99, 1);
        ruleGives("1+slice*99", 99, 1);
        ruleGives("1+slice*9999", 99, 1);
        ruleGives("slice*4", 80, 20);
        ruleGives("0-slice", 50, 50);
        ruleGives("1+slice*(7-2-1)-1", 80, 20);
        ruleGives("1+slice*24/4/2", 80, 20);
        ruleGives("1+slice*5/0", 50, 50);
        ruleGives("slices+slice+slice", 66, 33);
        ruleGives("1+(slice=0)*3", 80, 20);
        ruleGives("1+(slice<1)*3", 80, 20);
        ruleGives("1+(not slice)*3", 80, 20);
        ruleGives("1+(not not slice)*3", 80, 20);
        ruleGives("1+(5 and slice)*3", 80, 20);
        ruleGives("1+(0 or slice and 9)*3", 80, 20);
        ruleGives("1+(1 or slice and 0)*3", 50, 50);
        ruleGives("not 1<slice", 50, 50);
        ruleGives("slice*size/25", 80, 20);
        ruleGives("1+slice*(9999*9999*9999<0)*3", 80, 20);
        ruleGives("1+slice*((0-7)/2=0-3)*3", 80, 20);
        StrangeKnives x = Checks.town("plain 0 0;plain 1 0;child 2 7;loaf 0 100 0 9 0 1;"
                + "cuts 1+slice*(hunger+kind*10+thanked*100);");
        Checks.due("a plain one without hunger", x.slice(0, 0, 1), 50);
        Checks.due("a hungry child", x.slice(2, 0, 1), 94);
        x.thank(1, 0);
        Checks.due("a thanked one", x.slice(0, 0, 1), 99);
        Checks.due("who thanked", x.slice(1, 0, 1), 50);
    }

    private static void lastComerFirst() {
        StrangeKnives x = Checks.town("plain 0 0;twin 1 0;plain 2 0;plain 3 0;plain 4 0;"
                + "loaf 0 60 0 9 2 1 3 0;loaf 0 60 0 9 0 1 3 2;cuts 3-slice;");
        int[][] due = {{10, 30, 20, 30}, {10, 10, 20, 30}};
        for (int l = 0; l < 2; l++) {
            for (int i = 0; i < 4; i++) {
                Checks.due("slice(4, " + l + ", " + i + ")", x.slice(4, l, i), due[l][i]);
            }
        }
    }

    // ---- promises 12 to 16

    private static void cutting() {
        StrangeKnives x = Checks.town(A);
        Checks.due("cut(2, 0) too early", x.cut(2, 0), false);
        Checks.due("cut(1, 1) by an eater", x.cut(1, 1), false);
        Checks.due("cut(2, 1)", x.cut(2, 1), true);
        Checks.due("by whom", x.loaf(1, 6), 2);
        Checks.due("who may now", x.loaf(1, 7), 0);
        Checks.due("cut(2, 1) again", x.cut(2, 1), false);
        Checks.due("refused", x.count(13), 3);
        Checks.due("acts", x.count(8), 1);
        Checks.noSuch("cut(5, 0)", () -> x.cut(5, 0));
        Checks.noSuch("cut(0, -1)", () -> x.cut(0, -1));
        Checks.due("refused as before", x.count(13), 3);
    }

    private static void thanking() {
        StrangeKnives x = Checks.town(A);
        Checks.due("thank(0, 3)", x.thank(0, 3), 1);
        Checks.due("thank(1, 3)", x.thank(1, 3), 2);
        Checks.due("thanked", x.person(3, 4), 2);
        Checks.due("who thanks isn't", x.person(0, 4), 0);
        Checks.due("nor is the twin", x.person(4, 4), 0);
        Checks.due("they have met", x.met(3, 0), 0);
        Checks.due("for the twin, too", x.met(0, 4), 0);
        Checks.due("thank(1, 1)", x.thank(1, 1), -1);
        Checks.due("refused", x.count(13), 1);
        Checks.noSuch("thank(5, 5)", () -> x.thank(5, 5));
        Checks.noSuch("thank(0, 5)", () -> x.thank(0, 5));
    }

    private static void fairs() {
        StrangeKnives x = Checks.town(A);
        Checks.due("fair(7)", x.fair(7), 3);
        Checks.due("met(0, 1)", x.met(0, 1), 0);
        Checks.due("met(1, 2)", x.met(1, 2), 0);
        Checks.due("met(0, 2)", x.met(0, 2), 0);
        Checks.due("met(0, 3)", x.met(0, 3), -1);
        Checks.due("fair(9)", x.fair(9), 2);
        Checks.due("the twin has met, too", x.met(0, 4), 0);
        Checks.due("fair(31)", x.fair(31), 5);
        Checks.due("fair(0)", x.fair(0), -1);
        Checks.due("fair(4)", x.fair(4), -1);
        Checks.due("fair(33)", x.fair(33), -1);
        Checks.due("fair(-1)", x.fair(-1), -1);
        Checks.due("refused", x.count(13), 4);
        Checks.due("acts", x.count(8), 3);
    }

    private static void hours() {
        StrangeKnives x = Checks.town(A);
        Checks.due("hours(23)", x.hours(23), 23);
        Checks.due("day", x.count(4), 0);
        Checks.due("hours(1)", x.hours(1), 0);
        Checks.due("next day", x.count(4), 1);
        Checks.due("hours(0)", x.hours(0), -1);
        Checks.due("hours(100)", x.hours(100), -1);
        Checks.due("hours(-5)", x.hours(-5), -1);
        for (int day = 5; day <= 997; day += 4) {
            Checks.due("hours(96)", x.hours(96), 0);
        }
        Checks.due("day 997", x.count(4), 997);
        Checks.due("hours(72)", x.hours(72), -1);
        Checks.due("hours(71)", x.hours(71), 23);
        Checks.due("day 999", x.count(4), 999);
        Checks.due("hours(1) at the end", x.hours(1), -1);
        Checks.due("refused", x.count(13), 5);
        Checks.due("met long ago", x.met(1, 2), 1399);
    }

    private static void undoing() {
        StrangeKnives x = Checks.town(A);
        Checks.due("undo() of nothing", x.undo(), -1);
        x.cut(2, 1);
        x.thank(1, 2);
        x.hours(30);
        x.fair(31);
        x.fair(1);
        Checks.due("undo() a fair", x.undo(), 3);
        Checks.due("met(1, 2) a day ago", x.met(1, 2), 1);
        Checks.due("met(0, 3) never", x.met(0, 3), -1);
        Checks.due("undo() hours", x.undo(), 2);
        Checks.due("day", x.count(4), 0);
        Checks.due("hour", x.count(5), 0);
        Checks.due("undo() thanks", x.undo(), 1);
        Checks.due("met(1, 2) as told", x.met(1, 2), 400);
        Checks.due("thanked", x.person(2, 4), 0);
        Checks.due("undo() a cut", x.undo(), 0);
        Checks.due("by whom", x.loaf(1, 6), -1);
        Checks.due("undo() at the end", x.undo(), -1);
        Checks.due("refused stays", x.count(13), 1);
    }

    private static void fortyActs() {
        StrangeKnives x = Checks.town(A);
        x.cut(2, 1);
        x.thank(0, 2);
        for (int k = 0; k < 40; k++) {
            x.thank(0, 3);
            Checks.due("acts", x.count(8), Math.min(40, k + 3));
        }
        for (int k = 39; k >= 0; k--) {
            Checks.due("undo()", x.undo(), k);
        }
        Checks.due("undo() of what isn't kept", x.undo(), -1);
        Checks.due("the cut stays", x.loaf(1, 6), 2);
        Checks.due("the first thanks stay", x.person(2, 4), 1);
        Checks.due("the others don't", x.person(3, 4), 0);
        Checks.due("so they haven't met", x.met(0, 3), -1);
    }

    // ---- promises 17 to 23

    private static void byNoon() {
        StrangeKnives x = Checks.town(A);
        Checks.noSuch("carried(0) ahead", () -> x.carried(0));
        Checks.due("noon()", x.noon(), 5);
        Checks.due("carried(0)", x.carried(0), 2);
        Checks.due("carried(1)", x.carried(1), 2);
        Checks.noSuch("carried(2)", () -> x.carried(2));
        Checks.noSuch("carried(-1)", () -> x.carried(-1));
        x.cut(2, 1);
        Checks.due("the row stays", x.carried(1), 2);
        x.hours(5);
        Checks.due("noon() too late for 2, 3 and 4", x.noon(), -1);
        Checks.due("the row stays still", x.carried(1), 2);
        x.undo();
        x.hours(4);
        Checks.due("noon() just in time", x.noon(), 4);
        Checks.due("it was cut then", x.carried(1), -1);
        x.cut(2, 0);
        x.hours(90);
        Checks.due("noon() with all cut on another day", x.noon(), 0);
        Checks.due("carried(0) is none", x.carried(0), -1);
        x.undo();
        x.undo();
        x.hours(90);
        Checks.due("noon() behind day 0", x.noon(), -1);
    }

    private static void byNoonSchedules() {
        String people = "plain 9 0;plain 0 0;plain 1 0;";
        String loaf = "loaf 0 5 0 1 0;";
        StrangeKnives x = Checks.town(people + loaf.repeat(2));
        Checks.due("two in two hours", x.noon(), 0);
        Checks.due("carried(0)", x.carried(0), 1);
        Checks.due("carried(1)", x.carried(1), 1);
        StrangeKnives y = Checks.town(people + loaf.repeat(3));
        Checks.due("the third is carried", y.noon(), 1);
        Checks.due("of like rows the first", 100 * y.carried(0) + 10 * y.carried(1) + y.carried(2), 112);
        StrangeKnives z = Checks.town(people + loaf.repeat(4));
        Checks.due("the fourth would be stale", z.noon(), -1);
        Checks.noSuch("no row", () -> z.carried(0));
        StrangeKnives n = Checks.town("noon 1;" + people + "loaf 0 5 0 9 0;loaf 0 5 1 9 0;");
        Checks.due("in the hour of noon", n.noon(), 0);
        n.hours(1);
        Checks.due("both in one hour", n.noon(), -1);
        StrangeKnives u = Checks.town("noon 3;plain 9 0;plain 0 0;loaf 0 5 0 9 0;loaf 0 5 0 9 0;"
                + "loaf 0 5 1 1 0;loaf 0 5 0 1 0;");
        Checks.due("the most urgent first", u.noon(), 0);
    }

    private static void spent() {
        StrangeKnives x = Checks.town("plain 9 0;plain 0 0;" + "loaf 0 5 0 9 0;".repeat(6));
        Checks.due("noon() of six", x.noon(), -2);
        x.hours(24);
        Checks.due("noon() of six on another day", x.noon(), -2);
        x.undo();
        x.cut(1, 3);
        Checks.due("noon() of five", x.noon(), 0);
        Checks.due("carried(3)", x.carried(3), -1);
        x.undo();
        Checks.due("noon() of six again", x.noon(), -2);
        Checks.due("what is kept stays", x.carried(0), 1);
    }

    private static void familiar() {
        StrangeKnives x = Checks.town("plain 0 0;plain 1 0;deaf 2 0;met 0 1 3;met 0 2 3;");
        Checks.due("familiar()", x.familiar(), 1);
        x.fair(7);
        Checks.due("familiar() but the deaf", x.familiar(), 3);
        Checks.due("familiar() alone", Checks.town("plain 0 0;").familiar(), 1);
    }

    private static void rings() {
        StrangeKnives x = Checks.town(A);
        Checks.due("ring()", x.ring(), 13);
        StrangeKnives y = Checks.town("plain 0 0;deaf 1 0;plain 2 0;met 0 1 5;met 1 2 5;");
        Checks.due("whom a hearing one knows is no stranger", y.ring(), 5);
        Checks.due("ring() alone", Checks.town("plain 0 0;").ring(), 1);
        Checks.due("ring() of one house", Checks.town("plain 0 0;plain 0 0;").ring(), 1);
    }

    private static void safeFairs() {
        StrangeKnives x = Checks.town("plain 0 0;plain 1 0;plain 2 0;loaf 0 5 0 9 0;");
        Checks.due("safe() leaves one out", x.safe(), 3);
        StrangeKnives y = Checks.town("plain 0 0;plain 1 0;loaf 0 5 0 9 0;");
        Checks.due("safe() none", y.safe(), -1);
        y.cut(1, 0);
        Checks.due("safe() with all cut", y.safe(), 3);
        StrangeKnives z = Checks.town("plain 0 0;plain 1 0;twin 2 0;loaf 0 5 0 9 0;");
        Checks.due("safe() of twins", z.safe(), 6);
        Checks.due("safe() alone", Checks.town("plain 0 0;").safe(), -1);
        Checks.due("safe() without loaves", Checks.town("plain 0 0;plain 1 0;").safe(), 3);
        Checks.due("nothing has changed", z.count(8) + z.count(7), 1);
    }

    private static void helpAndDoors() {
        StrangeKnives x = Checks.town("plain 0 0;plain 3 0;plain 5 0;loaf 0 5 9 9 0;loaf 0 5 9 9 0 1;"
                + "loaf 0 5 9 9 1 0;loaf 0 5 9 9 0 1 2;");
        Checks.due("help()", x.help(), 2);
        Checks.due("doors()", x.doors(), 32);
        StrangeKnives y = Checks.town("plain 0 0;plain 3 0;plain 5 0;loaf 0 5 0 9 0;loaf 0 5 0 9 1;"
                + "loaf 0 5 0 9 2;");
        Checks.due("help() all", y.help(), 0);
        Checks.due("doors() of like ones the least", y.doors(), 9);
        y.cut(1, 0);
        Checks.due("doors() without the cut one", y.doors(), 1);
        y.fair(7);
        Checks.due("help() of friends", y.help(), 2);
        Checks.due("doors() of friends", y.doors(), 0);
    }

    // ---- promises 24 to 30

    private static void seenAndWho() {
        StrangeKnives x = Checks.town(A);
        Checks.due("who(1) without clues", x.who(1), 5);
        Checks.due("who(0) without clues", x.who(0), 30);
        Checks.due("see(1, 0, 7)", x.see(1, 0, 7), 1);
        Checks.due("who(1) by the rule", x.who(1), 1);
        Checks.due("who(0) is another loaf", x.who(0), 30);
        Checks.due("see(1, 2, 15)", x.see(1, 2, 15), 2);
        Checks.due("who(1) nobody", x.who(1), 0);
        Checks.due("see(1, 3, 5)", x.see(1, 3, 5), -1);
        Checks.due("see(1, -1, 5)", x.see(1, -1, 5), -1);
        Checks.due("see(1, 0, 1000)", x.see(1, 0, 1000), -1);
        Checks.due("see(1, 0, -1)", x.see(1, 0, -1), -1);
        Checks.noSuch("see(2, 0, 1)", () -> x.see(2, 0, 1));
        for (int k = 3; k <= 6; k++) {
            Checks.due("see(0, 0, 999)", x.see(0, 0, 999), k);
        }
        Checks.due("see() of a seventh", x.see(0, 0, 0), -1);
        Checks.due("refused", x.count(14), 5);
        Checks.due("seen", x.count(9), 6);
        Checks.noSuch("who(2)", () -> x.who(2));
    }

    private static void balkedAndWhom() {
        StrangeKnives x = Checks.town(A);
        Checks.due("whom(0) without clues", x.whom(0), 8);
        Checks.due("whom(1) without clues", x.whom(1), 2);
        Checks.due("balk(0, 1)", x.balk(0, 1), 1);
        Checks.due("he knows one already", x.whom(0), 8);
        Checks.due("balk(4, 0)", x.balk(4, 0), 2);
        Checks.due("he or his twin met 0", x.whom(0), 2);
        Checks.due("whom(1)", x.whom(1), 3);
        Checks.due("balk(2, 1) who is deaf", x.balk(2, 1), 3);
        Checks.due("whom(0) of a deaf one", x.whom(0), 0);
        Checks.due("whom(1) of a deaf one", x.whom(1), -1);
        Checks.due("a fourth", x.balk(0, 0), 4);
        Checks.due("a fifth", x.balk(0, 0), -1);
        Checks.due("refused", x.count(14), 1);
        Checks.noSuch("balk(5, 0)", () -> x.balk(5, 0));
        Checks.noSuch("balk(0, 2)", () -> x.balk(0, 2));
        Checks.noSuch("whom(2)", () -> x.whom(2));
        Checks.noSuch("whom(-1)", () -> x.whom(-1));
        StrangeKnives y = Checks.town("plain 0 0;plain 1 0;plain 2 0;loaf 0 5 0 9 0 1;");
        y.balk(0, 0);
        Checks.due("not himself", y.whom(0), 1);
        Checks.due("but the other eater", y.whom(1), 1);
    }

    private static void why() {
        StrangeKnives x = Checks.town(A);
        int[] due = {0, 1, 0, 2, 28, 0, 0};
        for (int answer = 0; answer <= 6; answer++) {
            Checks.due("why(0, " + answer + ")", x.why(0, answer), due[answer]);
        }
        Checks.noSuch("why(0, 7)", () -> x.why(0, 7));
        Checks.noSuch("why(0, -1)", () -> x.why(0, -1));
        Checks.noSuch("why(2, 0)", () -> x.why(2, 0));
    }

    private static void fairest() {
        StrangeKnives x = Checks.town("plain 0 0;plain 1 0;plain 2 5;deaf 3 0;plain 4 5;"
                + "loaf 0 90 9 9 0 1;loaf 0 90 9 9 0 1 2 3 4;cuts 1+slice*hunger;");
        Checks.due("fairest(0, NONE)", x.fairest(0, -1), 3);
        Checks.due("best for the last comer", x.fairest(0, 1), 2);
        Checks.due("best for the first one", x.fairest(0, 0), 3);
        Checks.due("nobody can", x.fairest(1, -1), -1);
        Checks.due("nobody can for him", x.fairest(1, 4), -1);
        x.hours(9);
        x.cut(2, 0);
        Checks.due("were it not cut", x.fairest(0, -1), 3);
        Checks.noSuch("fairest(0, 2)", () -> x.fairest(0, 2));
        Checks.noSuch("fairest(0, -2)", () -> x.fairest(0, -2));
        Checks.noSuch("fairest(2, 0)", () -> x.fairest(2, 0));
    }

    private static void forgetting() {
        StrangeKnives x = Checks.town(A);
        x.see(1, 0, 7);
        x.balk(4, 0);
        x.forget();
        Checks.due("seen", x.count(9), 0);
        Checks.due("balked", x.count(10), 0);
        Checks.due("who(1)", x.who(1), 5);
        Checks.due("whom(0)", x.whom(0), 8);
    }

    // ---- promises 31 to 34

    private static void games() {
        StrangeKnives x = Checks.town("plain 0 0;plain 1 0;plain 2 0;loaf 0 50 0 9 0;loaf 0 20 0 9 0;"
                + "loaf 0 9 0 9 1;");
        Checks.due("game(1, 2, 0)", x.game(1, 2, 0), 2);
        Checks.due("game(1, 2, 1)", x.game(1, 2, 1), 1);
        Checks.due("game(0, 1, 0)", x.game(0, 1, 0), 1);
        Checks.due("game(0, 1, 1)", x.game(0, 1, 1), 20);
        x.cut(1, 0);
        Checks.due("cut or not", x.game(1, 2, 1), 1);
        Checks.noSuch("game(1, 2, 2)", () -> x.game(1, 2, 2));
        Checks.noSuch("game(1, 1, 2)", () -> x.game(1, 1, 2));
        Checks.noSuch("game(3, 3, 0)", () -> x.game(3, 3, 0));
        Checks.badArgument("game(1, 1, 0)", () -> x.game(1, 1, 0));
        StrangeKnives y = Checks.town("plain 0 0;plain 1 0;");
        Checks.due("game() without loaves", y.game(0, 1, 0), 0);
        Checks.due("the first of none", y.game(0, 1, 1), -1);
        StrangeKnives z = Checks.town("plain 0 0;plain 1 0;loaf 0 9 0 9 0;");
        Checks.due("both at one loaf rest", z.game(0, 1, 0), 1);
        Checks.due("the first", z.game(0, 1, 1), 0);
        StrangeKnives n = Checks.town("plain 0 0;plain 1 0;plain 2 0;loaf 0 9 0 9 0;loaf 0 8 0 9 1 2;");
        Checks.due("both want one loaf", n.game(1, 2, 0), 3);
    }

    private static void seasons() {
        StrangeKnives x = Checks.town("forget 1;plain 0 0;plain 1 0;loaf 0 9 0 9 0;");
        // seed 1 draws 0 0, 1 1, 1 1, 0 1, 0 0, 1 1: they meet on the fourth day, and forget on the sixth
        int[] all = {0, 1, 2, 3, 3, 3, 4};
        int[] fewest = {0, 1, 1, 1, 0, 0, 0};
        int[] couples = {0, 0, 0, 0, 1, 1, 0};
        for (int n = 0; n <= 6; n++) {
            Checks.due("season(1, " + n + ", 0)", x.season(1, n, 0), all[n]);
            Checks.due("season(1, " + n + ", 1)", x.season(1, n, 1), fewest[n]);
            Checks.due("season(1, " + n + ", 2)", x.season(1, n, 2), couples[n]);
        }
        Checks.due("no days: all", x.season(7, 0, 0), 0);
        Checks.due("no days: fewest", x.season(7, 0, 1), 0);
        Checks.due("no days: couples", x.season(7, 0, 2), 0);
        x.cut(1, 0);
        Checks.due("as if none were cut", x.season(1, 6, 0), 4);
        Checks.due("nobody has met", x.met(0, 1), -1);
                Checks.badArgument("season(0, 61, 0)", () -> x.season(0, 61, 0));
        Checks.badArgument("season(0, -1, 2)", () -> x.season(0, -1, 2));
        Checks.noSuch("season(0, 61, 3)", () -> x.season(0, 61, 3));
        Checks.noSuch("season(0, 5, -1)", () -> x.season(0, 5, -1));
        x.hours(99);
        Checks.due("today is as it was", x.count(4), 4);
        Checks.due("from the next day on", x.season(1, 6, 0), 4);
        StrangeKnives z = new StrangeKnives();
        Checks.due("without people", z.season(3, 60, 0), 0);
    }

    private static void images() {
        StrangeKnives x = Checks.town(A);
        Checks.due("restore() without an image", x.restore(), false);
        x.cut(2, 1);
        x.thank(0, 3);
        x.hours(5);
        x.see(1, 0, 7);
        x.balk(0, 1);
        x.cut(2, 1);
        x.image();
        x.undo();
        x.undo();
        x.undo();
        x.forget();
        x.fair(31);
        x.fair(0);
        x.see(0, 5, 5);
        for (int again = 0; again < 2; again++) {
            Checks.due("restore()", x.restore(), true);
            int[] due = {5, 2, 365, 12, 0, 5, 1, 4, 3, 1, 1, 0, 0, 1, 0};
            for (int what = 0; what < due.length; what++) {
                Checks.due("restored count(" + what + ")", x.count(what), due[what]);
            }
            Checks.due("by whom", x.loaf(1, 6), 2);
            Checks.due("thanked", x.person(3, 4), 1);
            Checks.due("met(0, 4)", x.met(0, 4), 0);
            Checks.due("met(2, 3)", x.met(2, 3), -1);
            Checks.due("who(1)", x.who(1), 1);
            Checks.due("undo()", x.undo(), 2);
            Checks.due("hour", x.count(5), 0);
            x.hours(99);
        }
        x.image();
        x.hours(3);
        x.restore();
        Checks.due("in place of another one", x.count(5), 3);
    }
}
