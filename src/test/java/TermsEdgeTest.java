/** The bounds that the document's Terms 2 to 4 name, each sentence by itself. */
public final class TermsEdgeTest {
    /** Everybody lives alone; 0 eats of the loaf. */
    private static final String FOUR = "plain 0 0;plain 2 0;plain 4 0;plain 6 0;";

    public static void main(String[] args) {
        today();
        knowing();
        twinsMeet();
        strangers();
        eachOfMay();
        leastOfMay();
        bakedAndStale();
        howManySlices();
        sharing();
        keptWeights();
        childrenAndDeaf();
        lastComer();
        fortyActs();
        hours();
        undone();
        canCut();
        carrying();
        oneAnHour();
        fewestHouses();
        byNoonAndFresh();
        spentOrNone();
        familiarAndRing();
        safeFair();
        help();
        doors();
        seen();
        balked();
        games();
        gamesOfCutLoaves();
        seasons();
        draws();
        sameDrawnTwice();
        fairest();
        status();
        imageKeeps();
        longestUse();
        Checks.finish();
    }

    // ---- 2

    private static void today() {
        Checks.sentence("TODAY is DAY 0, HOUR 0 at first");
        StrangeKnives x = Checks.town(FOUR);
        Checks.due("day", x.count(4), 0);
        Checks.due("hour", x.count(5), 0);
        StrangeKnives y = new StrangeKnives();
        y.hours(50);
        Checks.tell(y, FOUR);
        Checks.due("day of another town", y.count(4), 0);
        Checks.due("hour of another town", y.count(5), 0);
    }

    private static void knowing() {
        Checks.sentence("if they are in one HOUSE, or TWINS, or (but the deaf) if they have MET FORGET days ago or less");
        StrangeKnives house = Checks.town("deaf 9 0;plain 9 0;plain 8 0;");
        Checks.due("a deaf one knows his house", house.knows(0, 1), true);
        Checks.due("the next house is another one", house.knows(1, 2), false);
        StrangeKnives twins = Checks.town("deaf 1 0;twin 8 0;");
        Checks.due("a deaf one knows his twin", twins.knows(0, 1), true);
        Checks.due("his twin knows him", twins.knows(1, 0), true);
        StrangeKnives deaf = Checks.town("deaf 1 0;deaf 2 0;plain 3 0;met 0 1 0;met 0 2 0;");
        Checks.due("two deaf ones have met", deaf.knows(0, 1), false);
        Checks.due("a deaf one has met", deaf.knows(0, 2), false);
        Checks.due("who has met a deaf one", deaf.knows(2, 0), true);
        forgets("", 365);
        forgets("forget 1;", 1);
        forgets("forget 2;", 2);
        forgets("forget 998;", 998);
        StrangeKnives most = Checks.town("forget 999;" + FOUR + "met 0 1 999;");
        Checks.due("999 days ago", most.knows(0, 1), true);
        most.hours(23);
        Checks.due("in the last hour", most.knows(0, 1), true);
        most.hours(1);
        Checks.due("1000 days ago", most.knows(0, 1), false);
        most.undo();
        Checks.due("undone", most.knows(0, 1), true);
    }

    private static void forgets(String line, int days) {
        StrangeKnives x = Checks.town(line + FOUR + "met 0 1 " + days + ";met 0 2 " + (days + 1) + ";met 0 3 "
                + (days - 1) + ";");
        Checks.due("met so many days ago: " + days, x.knows(0, 1), true);
        Checks.due("both ways", x.knows(1, 0), true);
        Checks.due("one day more", x.knows(0, 2), false);
        x.hours(24);
        Checks.due("one day later", x.knows(0, 1), false);
        Checks.due("one day less, one day later", x.knows(0, 3), true);
        x.thank(0, 2);
        Checks.due("met again", x.knows(0, 2), true);
    }

    private static void twinsMeet() {
        Checks.sentence("with who has MET one the other one has MET, too");
        StrangeKnives x = Checks.town("plain 0 0;twin 1 0;plain 2 0;twin 3 0;plain 4 0;met 0 2 9;met 1 4 7;");
        int[][] due = {{-1, -1, 9, 9, 7}, {-1, -1, 9, 9, 7}, {9, 9, -1, -1, -1}, {9, 9, -1, -1, -1},
            {7, 7, -1, -1, -1}};
        for (int p = 0; p < 5; p++) {
            for (int q = 0; q < 5; q++) {
                if (p != q) {
                    Checks.due("met(" + p + ", " + q + ")", x.met(p, q), due[p][q]);
                }
            }
        }
        Checks.sentence("(with each other they never have, whatever is told)");
        x.fair(31);
        x.thank(0, 1);
        Checks.due("one pair", x.met(0, 1), -1);
        Checks.due("the other pair", x.met(3, 2), -1);
        Checks.due("one of each", x.met(3, 1), 0);
        StrangeKnives far = Checks.town("plain 0 0;twin 1 0;met 0 1 999;");
        Checks.due("they know each other always", far.knows(0, 1), true);
    }

    private static void strangers() {
        Checks.sentence("STRANGERS are two of whom neither knows the other one");
        Checks.due("neither", Checks.town("plain 0 0;deaf 1 0;").ring(), 3);
        Checks.due("one of them", Checks.town("plain 0 0;deaf 1 0;met 0 1 5;").ring(), 1);
        Checks.due("two deaf ones who met", Checks.town("deaf 0 0;deaf 1 0;met 0 1 5;").ring(), 3);
        Checks.due("both", Checks.town("plain 0 0;plain 1 0;met 0 1 5;").ring(), 1);
    }

    private static void eachOfMay() {
        Checks.sentence("1 he eats of it, or his TWIN does");
        StrangeKnives eats = Checks.town("plain 0 0;plain 1 0;twin 2 0;plain 3 0;twin 4 0;loaf 0 9 0 9 0 2 3;");
        mayAll(eats, new int[] {1, 1, 1, 1, 1});
        Checks.sentence("2 he is in one HOUSE with an EATER");
        mayAll(Checks.town("plain 4 0;plain 5 0;plain 4 0;plain 5 0;plain 3 0;plain 6 0;loaf 9 9 0 9 0 1;"),
                new int[] {1, 1, 2, 2, 0, 0});
        mayAll(Checks.town("plain 4 0;twin 7 0;plain 7 0;loaf 7 9 0 9 0;"), new int[] {1, 1, 0});
        Checks.sentence("3 he knows an EATER");
        mayAll(Checks.town("deaf 0 0;plain 1 0;deaf 2 0;plain 3 0;met 0 1 0;met 0 2 0;loaf 9 9 0 9 0;"),
                new int[] {1, 3, 0, 0});
        mayAll(Checks.town("plain 0 0;plain 1 0;plain 2 0;deaf 3 0;met 1 2 9;met 1 3 9;loaf 9 9 0 9 0 1;"),
                new int[] {1, 1, 3, 0});
        Checks.sentence("6 it was cut");
        StrangeKnives cut = Checks.town(FOUR + "loaf 0 9 0 9 0;loaf 0 9 0 9 0;");
        cut.cut(2, 0);
        mayAll(cut, new int[] {1, 6, 6, 6});
        Checks.due("another loaf", cut.may(2, 1), 0);
    }

    private static void howManySlices() {
        Checks.sentence("SLICES: as many as EATERS (two TWINS are one)");
        StrangeKnives x = Checks.town("plain 0 0;twin 1 0;child 2 0;twin 3 0;deaf 4 0;twin 5 0;plain 6 0;"
                + "loaf 0 90 0 9 0 1 2 3 4 5;loaf 0 90 0 9 5 3 1 4 2 0;loaf 0 90 0 9 1 2 5;loaf 0 90 0 9 1 2 3;");
        int[] due = {3, 3, 3, 2};
        for (int l = 0; l < due.length; l++) {
            Checks.due("slices of " + l, x.loaf(l, 5), due[l]);
        }
        for (int i = 0; i < 6; i++) {
            Checks.due("each two have a third", x.slice(6, 0, i), 30);
        }
        Checks.due("no crumbs", x.slice(6, 0, -1), 0);
    }

    private static void leastOfMay() {
        Checks.sentence("else the least of");
        StrangeKnives x = Checks.town("plain 0 0;twin 0 0;plain 0 0;plain 1 0;plain 2 0;deaf 3 0;plain 4 0;"
                + "met 0 2 0;met 0 3 0;met 0 5 0;met 0 6 365;loaf 0 9 5 1 0;");
        int[] early = {1, 1, 2, 3, 4, 4, 3};
        int[] late = {1, 1, 2, 3, 0, 0, 3};
        int[] gone = {1, 1, 2, 3, 5, 5, 3};
        int[] done = {1, 1, 2, 3, 6, 6, 3};
        mayAll(x, early);
        x.hours(5);
        mayAll(x, late);
        Checks.due("cut", x.cut(5, 0), true);
        mayAll(x, done);
        x.hours(2);
        mayAll(x, gone);
        x.hours(17);
        gone[6] = 5;
        mayAll(x, gone);
    }

    private static void mayAll(StrangeKnives x, int[] due) {
        for (int p = 0; p < due.length; p++) {
            Checks.due("may(" + p + ", 0)", x.may(p, 0), due[p]);
        }
    }

    private static void bakedAndStale() {
        Checks.sentence("4 it isn't BAKED yet in this HOUR");
        StrangeKnives x = Checks.town(FOUR + "loaf 0 9 3 2 0;loaf 0 9 23 23 0;loaf 0 9 0 23 0;loaf 0 9 1 1 0;");
        int[] first = {4, 4, 4, 0, 0, 0, 5};
        for (int hour = 0; hour < 7; hour++) {
            Checks.due("baked at 3, hour " + hour, x.may(1, 0), first[hour]);
            Checks.due("baked at 1, hour " + hour, x.may(1, 3), hour == 0 ? 4 : hour <= 2 ? 0 : 5);
            Checks.due("baked at 23, hour " + hour, x.may(1, 1), 4);
            x.hours(1);
        }
        Checks.sentence("5 it is stale (this HOUR is above BAKED and FRESH, or it is not DAY 0 any more");
        x.hours(15);
        Checks.due("hour 22 of the last", x.may(1, 1), 4);
        x.hours(1);
        Checks.due("hour 23 of the last", x.may(1, 1), 0);
        Checks.due("hour 23 of 0 and 23", x.may(1, 2), 0);
        x.hours(1);
        Checks.due("day 1 of the last", x.may(1, 1), 5);
        Checks.due("day 1 of 0 and 23", x.may(1, 2), 5);
        x.hours(23);
        Checks.due("hour 23 of day 1", x.may(1, 1), 5);
    }

    private static void sharing() {
        Checks.sentence("by their sum, cut down; what is left are CRUMBS");
        StrangeKnives x = Checks.town("plain 0 0;plain 1 0;plain 2 0;plain 3 0;plain 4 0;plain 5 0;plain 6 0;"
                + "loaf 0 1 0 1 0 1 2 3 4 5;loaf 0 5 0 1 0 1 2 3 4 5;loaf 0 6 0 1 0 1 2 3 4 5;"
                + "loaf 0 999 0 1 0 1 2 3 4 5;loaf 0 999 0 1 0;loaf 0 1 0 1 0;");
        int[] each = {0, 0, 1, 166, 999, 1};
        int[] crumbs = {1, 5, 0, 3, 0, 0};
        for (int l = 0; l < 6; l++) {
            Checks.due("each of " + l, x.slice(6, l, 0), each[l]);
            Checks.due("crumbs of " + l, x.slice(6, l, -1), crumbs[l]);
        }
        StrangeKnives y = Checks.town(FOUR + "loaf 0 10 0 1 0 1 2;cuts 1+slice;");
        Checks.due("a sixth", y.slice(3, 0, 0), 1);
        Checks.due("a third", y.slice(3, 0, 1), 3);
        Checks.due("a half", y.slice(3, 0, 2), 5);
        Checks.due("what is left", y.slice(3, 0, -1), 1);
    }

    private static void weights(String rule, int last, int first) {
        StrangeKnives x = Checks.town(FOUR + "loaf 0 1 0 1 0;loaf 0 200 0 1 0 1;cuts " + rule + ";");
        Checks.due(rule + " for the last comer", x.slice(3, 1, 1), last);
        Checks.due(rule + " for the first one", x.slice(3, 1, 0), first);
    }

    private static void keptWeights() {
        Checks.sentence("(kept to 1 to 99; without a rule, and of a deaf one always, 1 each)");
        weights("1+slice*97", 197, 1 + 1);
        weights("1+slice*98", 198, 2);
        weights("1+slice*99", 198, 2);
        weights("1+slice*9998", 198, 2);
        weights("slice*99", 198, 2);
        weights("slice", 100, 100);
        weights("slice*2", 133, 66);
        weights("slice*3-2", 100, 100);
        weights("0-slice*9999", 100, 100);
        weights("slice*2048*2048*512", 100, 100);
        weights("slice*(2048*2048*512-1)", 198, 2);
        weights("0", 100, 100);
        weights("not slice*9", 100, 100);
        weights("not not (slice*9)", 100, 100);
        StrangeKnives without = Checks.town(FOUR + "loaf 0 200 0 1 0 1;");
        Checks.due("without a rule", without.slice(3, 0, 0), 100);
        StrangeKnives deaf = Checks.town(FOUR + "deaf 8 0;loaf 0 200 0 1 0 1;cuts slice*9;");
        Checks.due("of a deaf one", deaf.slice(4, 0, 0), 100);
        Checks.due("of one who hears", deaf.slice(3, 0, 0), 20);
        StrangeKnives twin = Checks.town("plain 0 0;plain 1 0;deaf 2 0;twin 3 0;loaf 0 200 0 1 0 1;cuts slice*9;");
        Checks.due("of a deaf one's twin", twin.slice(3, 0, 0), 20);
    }

    private static void childrenAndDeaf() {
        Checks.sentence("A child cuts the other way round (the last SLICE as the rule gives for the first, and so on)");
        // each one takes by size, so that what they get is the same either way
        StrangeKnives x = Checks.town("plain 0 0;plain 1 0;plain 2 0;child 3 0;plain 4 0;"
                + "loaf 0 60 0 1 0 1 2;loaf 0 60 0 1 0;cuts 3-slice;");
        for (int i = 0; i < 3; i++) {
            Checks.due("a child's slice " + i, x.slice(3, 0, i), 10 * (i + 1));
            Checks.due("another one's slice " + i, x.slice(4, 0, i), 10 * (i + 1));
        }
        Checks.due("one slice alone", x.slice(3, 1, 0), 60);
        Checks.due("no crumbs", x.slice(3, 0, -1), 0);
    }

    private static void lastComer() {
        Checks.sentence("Of those who eat the last comer (of TWINS who comes later counts) takes the largest");
        StrangeKnives x = Checks.town("plain 0 0;twin 1 0;plain 2 0;plain 3 0;"
                + "loaf 0 60 0 1 0 2 1;loaf 0 60 0 1 1 0 2;loaf 0 60 0 1 2 0 1;loaf 0 60 0 1 0 2;cuts 1+slice;");
        int[][] due = {{40, 20, 40}, {20, 20, 40}, {20, 40, 40}, {20, 40}};
        for (int l = 0; l < due.length; l++) {
            for (int i = 0; i < due[l].length; i++) {
                Checks.due("slice(3, " + l + ", " + i + ")", x.slice(3, l, i), due[l][i]);
            }
        }
        Checks.sentence("(of like ones the first), then the one ahead of him of what is left, and so on");
        StrangeKnives y = Checks.town(FOUR + "plain 8 0;loaf 0 100 0 1 0 1 2 3;cuts 1+2*(slice=1 or slice=2);");
        int[] like = {12, 12, 37, 37};
        for (int i = 0; i < 4; i++) {
            Checks.due("slice(4, 0, " + i + ")", y.slice(4, 0, i), like[i]);
        }
        Checks.due("crumbs", y.slice(4, 0, -1), 2);
    }

    private static void fortyActs() {
        Checks.sentence("ACTS (at most 40 are kept, the latest ones)");
        StrangeKnives x = Checks.town(FOUR + "loaf 0 9 0 9 0;");
        x.cut(3, 0);
        for (int k = 2; k <= 40; k++) {
            x.thank(1, 2);
        }
        Checks.due("forty", x.count(8), 40);
        x.hours(1);
        Checks.due("forty-one", x.count(8), 40);
        for (int left = 39; left >= 0; left--) {
            Checks.due("undo()", x.undo(), left);
        }
        Checks.due("no more", x.undo(), -1);
        Checks.due("the oldest stays done", x.loaf(0, 6), 3);
        Checks.due("the second is undone", x.person(2, 4), 0);
        StrangeKnives y = Checks.town(FOUR + "loaf 0 9 0 9 0;");
        y.cut(3, 0);
        for (int k = 2; k <= 40; k++) {
            y.thank(1, 2);
        }
        for (int left = 39; left >= 0; left--) {
            y.undo();
        }
        Checks.due("of forty the oldest is undone, too", y.loaf(0, 6), -1);
    }

    private static void hours() {
        Checks.sentence("HOURS go by (1 to 99: behind 23 comes HOUR 0 of the next DAY)");
        StrangeKnives x = new StrangeKnives();
        Checks.due("hours(0)", x.hours(0), -1);
        Checks.due("hours(1)", x.hours(1), 1);
        Checks.due("hours(22)", x.hours(22), 23);
        Checks.due("day 0", x.count(4), 0);
        Checks.due("hours(1)", x.hours(1), 0);
        Checks.due("day 1", x.count(4), 1);
        Checks.due("hours(99)", x.hours(99), 3);
        Checks.due("day 5", x.count(4), 5);
        Checks.due("hours(100)", x.hours(100), -1);
        Checks.due("hours(24)", x.hours(24), 3);
        Checks.due("day 6", x.count(4), 6);
        Checks.due("acts", x.count(8), 5);
        Checks.sentence("a FAIR of PEOPLE (2 or more): each two have MET TODAY");
        StrangeKnives y = Checks.town(FOUR);
        Checks.due("of nobody", y.fair(0), -1);
        Checks.due("of one", y.fair(8), -1);
        Checks.due("of two", y.fair(9), 2);
        Checks.due("they have met", y.met(0, 3), 0);
        Checks.due("of all", y.fair(15), 4);
        Checks.due("all have met", y.count(7), 6);
    }

    private static void undone() {
        Checks.sentence("They are UNDONE, the last one first");
        StrangeKnives x = Checks.town(FOUR + "met 0 1 5;loaf 0 9 0 9 0;");
        x.thank(1, 0);
        x.hours(24);
        x.thank(0, 1);
        Checks.due("met today", x.met(0, 1), 0);
        x.undo();
        Checks.due("met a day ago", x.met(0, 1), 1);
        Checks.due("thanked once", x.person(0, 4), 1);
        Checks.due("not thanked", x.person(1, 4), 0);
        x.undo();
        Checks.due("met today again", x.met(0, 1), 0);
        x.undo();
        Checks.due("met as told", x.met(0, 1), 5);
        Checks.due("no longer thanked", x.person(0, 4), 0);
        x.fair(15);
        x.undo();
        Checks.due("a fair", x.met(2, 3), -1);
        x.cut(2, 0);
        x.undo();
        Checks.due("cut again", x.cut(3, 0), true);
    }

    // ---- 3

    private static void canCut() {
        Checks.sentence("(CAN CUT a LOAF, one that isn't cut, all for whom it is none of 1, 2, 3, whatever DAY and HOUR it is.)");
        StrangeKnives x = Checks.town("plain 0 0;plain 5 0;loaf 0 9 9 1 0;");
        Checks.due("ahead of its hour", x.help(), 0);
        Checks.due("its doors", x.doors(), 32);
        Checks.due("a fair would spoil it", x.safe(), -1);
        x.hours(12);
        Checks.due("stale", x.help(), 0);
        Checks.due("doors of a stale one", x.doors(), 32);
        x.hours(99);
        Checks.due("on another day", x.help(), 0);
        Checks.due("doors on another day", x.doors(), 32);
        Checks.due("safe on another day", x.safe(), -1);
        StrangeKnives y = Checks.town("plain 0 0;plain 5 0;loaf 0 9 0 1 0;loaf 0 9 0 1 1 0;");
        Checks.due("nobody can cut the second", y.help(), 1);
        y.cut(1, 0);
        Checks.due("the first is cut", y.help(), 1);
        Checks.due("its doors need not open", y.doors(), 0);
        Checks.due("a fair spoils nothing", y.safe(), 3);
    }

    private static void carrying() {
        Checks.sentence("that takes 1 hour for each HOUSE, from this HOUR on, or from that in which it is BAKED, if that is later");
        String people = "plain 0 0;plain 5 0;";
        Checks.due("five hours by noon 5", Checks.town("noon 5;" + people + "loaf 0 9 0 9 0;").noon(), 5);
        Checks.due("five hours by noon 4", Checks.town("noon 4;" + people + "loaf 0 9 0 9 0;").noon(), -1);
        Checks.due("baked at 3 by noon 8", Checks.town("noon 8;" + people + "loaf 0 9 3 9 0;").noon(), 5);
        Checks.due("baked at 3 by noon 7", Checks.town("noon 7;" + people + "loaf 0 9 3 9 0;").noon(), -1);
        Checks.due("fresh for 5", Checks.town(people + "loaf 0 9 3 5 0;").noon(), 5);
        Checks.due("fresh for 4", Checks.town(people + "loaf 0 9 3 4 0;").noon(), -1);
        Checks.due("his own house", Checks.town("noon 3;" + people + "loaf 5 9 3 1 0;").noon(), 0);
        Checks.due("baked behind noon", Checks.town("noon 2;" + people + "loaf 5 9 3 9 0;").noon(), -1);
        Checks.due("the other way", Checks.town(people + "loaf 9 9 0 9 0;").noon(), 4);
        StrangeKnives x = Checks.town("noon 9;" + people + "loaf 0 9 3 9 0;");
        x.hours(4);
        Checks.due("from hour 4 on", x.noon(), 5);
        x.hours(1);
        Checks.due("from hour 5 on", x.noon(), -1);
        StrangeKnives y = Checks.town("noon 9;" + people + "loaf 0 9 3 5 0;");
        y.hours(3);
        Checks.due("stale above hour 8", y.noon(), 5);
        y.hours(1);
        Checks.due("stale in hour 9", y.noon(), -1);
        StrangeKnives z = Checks.town("noon 9;plain 0 0;plain 5 0;loaf 5 9 0 23 0;");
        z.hours(9);
        Checks.due("in the hour of noon", z.noon(), 0);
        z.hours(1);
        Checks.due("behind noon", z.noon(), -1);
    }

    private static void oneAnHour() {
        Checks.sentence("each cuts one LOAF in an HOUR, from that on in which it is there");
        String people = "plain 0 0;plain 5 0;";
        String loaf = "loaf 5 9 0 23 0;";
        Checks.due("five by noon 4", Checks.town("noon 4;" + people + loaf.repeat(5)).noon(), 0);
        Checks.due("five by noon 3", Checks.town("noon 3;" + people + loaf.repeat(5)).noon(), -1);
        Checks.sentence("of those that are there what must be cut soonest, of like ones the least LOAF");
        // the second must be cut in hour 1, the first may wait; a third comes in hour 1 and stales in 2
        Checks.due("the soonest first", Checks.town("noon 9;" + people + "loaf 5 9 0 9 0;loaf 5 9 0 1 0;"
                + "loaf 5 9 1 1 0;").noon(), 0);
        Checks.due("not what isn't there yet", Checks.town("noon 9;" + people + "loaf 5 9 0 9 0;"
                + "loaf 5 9 2 1 0;loaf 5 9 2 1 0;").noon(), 0);
        Checks.due("three of one hour", Checks.town("noon 9;" + people + "loaf 5 9 2 1 0;"
                + "loaf 5 9 2 1 0;loaf 5 9 2 1 0;").noon(), -1);
        Checks.due("an hour is idle", Checks.town("noon 9;" + people + "loaf 4 9 0 1 0;").noon(), 1);
    }

    private static void fewestHouses() {
        Checks.sentence("the fewest HOUSES carried, all together; of like ones the first as a row of PEOPLE by LOAVES");
        String people = "plain 0 0;plain 3 0;plain 5 0;plain 4 0;";
        StrangeKnives x = Checks.town(people + "loaf 4 9 0 9 0;loaf 4 9 0 9 0;");
        Checks.due("both stay", x.noon(), 0);
        row(x, 3, 3);
        StrangeKnives y = Checks.town("noon 1;" + people + "loaf 4 9 0 9 0;loaf 4 9 0 9 0;loaf 4 9 0 9 0;");
        Checks.due("one is carried", y.noon(), 1);
        row(y, 1, 3, 3);
        StrangeKnives z = Checks.town("noon 1;" + people + "loaf 4 9 1 9 0;loaf 4 9 1 9 0;");
        Checks.due("neither can be carried in time", z.noon(), -1);
        StrangeKnives e = Checks.town("plain 0 0;plain 3 0;plain 3 0;loaf 3 9 0 9 0;loaf 3 9 0 9 0;");
        Checks.due("like ones", e.noon(), 0);
        row(e, 1, 1);
        StrangeKnives all = Checks.town("noon 23;plain 0 0;plain 9 0;" + "loaf 0 9 0 23 0;".repeat(5));
        Checks.due("all over the town", all.noon(), 45);
    }

    private static void row(StrangeKnives x, int... due) {
        for (int l = 0; l < due.length; l++) {
            Checks.due("carried(" + l + ")", x.carried(l), due[l]);
        }
    }

    private static void byNoonAndFresh() {
        Checks.sentence("in an HOUR no later than NOON, and not above BAKED and FRESH");
        String people = "plain 0 0;plain 5 0;";
        Checks.due("noon ahead of staleness", Checks.town("noon 3;" + people + "loaf 5 9 3 9 0;").noon(), 0);
        Checks.due("baked behind noon", Checks.town("noon 3;" + people + "loaf 5 9 4 9 0;").noon(), -1);
        Checks.due("two in the hour of noon", Checks.town("noon 3;" + people + "loaf 5 9 3 9 0;"
                + "loaf 5 9 3 9 0;").noon(), -1);
        Checks.due("staleness ahead of noon", Checks.town("noon 9;" + people + "loaf 5 9 3 1 0;"
                + "loaf 5 9 3 1 0;").noon(), 0);
        Checks.due("a third is stale", Checks.town("noon 9;" + people + "loaf 5 9 3 1 0;"
                + "loaf 5 9 3 1 0;loaf 5 9 3 1 0;").noon(), -1);
        Checks.due("in the last hour", Checks.town("noon 23;" + people + "loaf 5 9 23 23 0;").noon(), 0);
        StrangeKnives x = Checks.town("noon 23;" + people + "loaf 5 9 22 23 0;loaf 5 9 23 23 0;");
        x.hours(22);
        Checks.due("in the last two hours", x.noon(), 0);
        x.hours(1);
        Checks.due("not both in the last one", x.noon(), -1);
        StrangeKnives y = Checks.town("noon 12;" + people + "loaf 5 9 0 5 0;");
        y.hours(5);
        Checks.due("not above", y.noon(), 0);
        y.hours(1);
        Checks.due("above", y.noon(), -1);
    }

    private static void spentOrNone() {
        Checks.sentence("none (so behind DAY 0, if some aren't cut)");
        StrangeKnives x = Checks.town("plain 0 0;plain 5 0;loaf 5 9 0 9 0;loaf 5 9 0 9 0;");
        x.cut(1, 0);
        x.hours(24);
        Checks.due("one isn't cut", x.noon(), -1);
        x.undo();
        x.cut(1, 1);
        x.hours(24);
        Checks.due("all are cut", x.noon(), 0);
        row(x, -1, -1);
        Checks.due("nobody can", Checks.town("plain 0 0;loaf 0 9 0 9 0;").noon(), -1);
        Checks.due("without loaves", Checks.town("plain 0 0;").noon(), 0);
        Checks.sentence("SPENT: more than 5 LOAVES aren't cut");
        StrangeKnives six = Checks.town("plain 0 0;plain 5 0;" + "loaf 5 9 0 9 0;".repeat(6));
        Checks.due("six", six.noon(), -2);
        six.cut(1, 5);
        Checks.due("five", six.noon(), 0);
        row(six, 1, 1, 1, 1, 1, -1);
        StrangeKnives hopeless = Checks.town("plain 0 0;" + "loaf 5 9 0 9 0;".repeat(6));
        Checks.due("six that nobody can cut", hopeless.noon(), -2);
    }

    private static void familiarAndRing() {
        Checks.sentence("NOBODY'S STRANGERS: those who know all others, as bits");
        Checks.due("nobody", new StrangeKnives().familiar(), 0);
        Checks.due("one alone", Checks.town("deaf 3 0;").familiar(), 1);
        Checks.due("one house of eight", Checks.town("plain 3 0;".repeat(8)).familiar(), 255);
        Checks.due("none", Checks.town(FOUR).familiar(), 0);
        Checks.due("who is known, but knows not all", Checks.town("deaf 0 0;plain 1 0;met 0 1 0;").familiar(), 2);
        Checks.sentence("of like ones the least as bits (0 without PEOPLE)");
        Checks.due("without people", new StrangeKnives().ring(), 0);
        Checks.due("eight houses", Checks.town("plain 0 0;plain 1 0;plain 2 0;plain 3 0;plain 4 0;plain 5 0;"
                + "plain 6 0;plain 7 0;").ring(), 255);
        Checks.due("one house of eight", Checks.town("plain 3 0;".repeat(8)).ring(), 1);
        Checks.due("like ones", Checks.town("plain 0 0;plain 1 0;plain 1 0;plain 0 0;").ring(), 3);
        Checks.due("more, though later", Checks.town("plain 0 0;plain 1 0;plain 2 0;met 0 1 0;met 0 2 0;").ring(), 6);
    }

    private static void safeFair() {
        Checks.sentence("the largest set of PEOPLE (two or more; of like ones the least as bits)");
        Checks.due("nobody", new StrangeKnives().safe(), -1);
        Checks.due("one", Checks.town("plain 0 0;").safe(), -1);
        Checks.due("two", Checks.town("plain 0 0;plain 1 0;").safe(), 3);
        Checks.due("eight", Checks.town("plain 0 0;".repeat(8)).safe(), 255);
        Checks.due("all but one", Checks.town(FOUR + "loaf 0 9 0 9 0;").safe(), 7);
        Checks.due("all but the eater", Checks.town("plain 0 0;plain 1 0;plain 2 0;plain 3 0;met 3 0 0;"
                + "loaf 0 9 0 9 0;loaf 0 9 0 9 3;").safe(), 11);
        Checks.sentence("for each LOAF that somebody CAN CUT there is still one who can");
        Checks.due("a loaf that nobody can cut", Checks.town("plain 0 0;plain 1 0;loaf 0 9 0 9 0 1;").safe(), 3);
        Checks.due("a deaf one still can", Checks.town("plain 0 0;deaf 1 0;loaf 0 9 0 9 0;").safe(), 3);
        Checks.due("who knows the deaf can't", Checks.town("deaf 0 0;plain 1 0;loaf 0 9 0 9 0;").safe(), -1);
        Checks.due("a twin meets, too", Checks.town("plain 0 0;plain 1 0;twin 2 0;plain 3 0;met 0 3 0;"
                + "loaf 0 9 0 9 0;").safe(), 14);
    }

    private static void help() {
        Checks.sentence("of LOAVES that aren't cut the fewest that are left, if each cuts one that he CAN CUT at most");
        Checks.due("nothing", new StrangeKnives().help(), 0);
        Checks.due("nobody can", Checks.town("plain 0 0;" + "loaf 0 9 0 9 0;".repeat(6)).help(), 6);
        Checks.due("one each", Checks.town("plain 0 0;plain 1 0;" + "loaf 0 9 0 9 0;".repeat(6)).help(), 5);
        Checks.due("one loaf, and nobody can", Checks.town("plain 0 0;loaf 0 9 0 9 0;").help(), 1);
        Checks.due("only the first is left", Checks.town("plain 0 0;plain 1 0;loaf 0 9 0 9 0 1;"
                + "loaf 0 9 0 9 0;").help(), 1);
        StrangeKnives x = Checks.town("plain 0 0;plain 1 0;plain 2 0;loaf 0 9 0 9 0;loaf 0 9 0 9 0 1;");
        Checks.due("the first leaves the second to who alone can", x.help(), 0);
        x.cut(1, 0);
        Checks.due("the second is left to him", x.help(), 0);
        x.cut(2, 1);
        Checks.due("all are cut", x.help(), 0);
    }

    private static void doors() {
        Checks.sentence("the fewest HOUSES so that each LOAF that somebody CAN CUT somebody in these can; of as few the least as bits");
        Checks.due("nothing", new StrangeKnives().doors(), 0);
        Checks.due("nobody can", Checks.town("plain 0 0;loaf 0 9 0 9 0;").doors(), 0);
        Checks.due("the least of two", Checks.town("plain 5 0;plain 9 0;plain 7 0;loaf 0 9 0 9 0;").doors(), 128);
        Checks.due("house 9", Checks.town("plain 5 0;plain 9 0;loaf 0 9 0 9 0;").doors(), 512);
        Checks.due("one for both ahead of two", Checks.town("plain 0 0;plain 1 0;plain 9 0;loaf 0 9 0 9 0;"
                + "loaf 0 9 0 9 1;").doors(), 512);
        Checks.due("two", Checks.town("plain 0 0;plain 1 0;loaf 0 9 0 9 0;loaf 0 9 0 9 1;").doors(), 3);
    }

    // ---- 4

    private static void seen() {
        Checks.sentence("SEEN (at most 6)");
        StrangeKnives x = Checks.town(FOUR + "loaf 0 60 0 9 0 1;loaf 0 60 0 9 0;");
        for (int k = 1; k <= 6; k++) {
            Checks.due("see()", x.see(0, 0, 30), k);
        }
        Checks.due("a seventh", x.see(1, 0, 30), -1);
        Checks.due("six stay", x.count(9), 6);
        Checks.due("the seventh doesn't count", x.who(1), 14);
        Checks.due("the six hold", x.who(0), 12);
        Checks.sentence("got so much (0 to 999; a TWIN what both share)");
        StrangeKnives y = Checks.town("plain 0 0;twin 1 0;plain 2 0;plain 3 0;loaf 0 999 0 9 0 1;loaf 0 1 0 9 2 3;");
        Checks.due("see 999", y.see(0, 0, 999), 1);
        Checks.due("see 1000", y.see(0, 0, 1000), -1);
        Checks.due("both the same", y.see(0, 1, 999), 2);
        Checks.due("all who don't eat", y.who(0), 12);
        Checks.due("see 0", y.see(1, 0, 0), 3);
        Checks.due("see -1", y.see(1, 0, -1), -1);
        Checks.due("of a small loaf all are crumbs", y.who(1), 3);
        Checks.sentence("PEOPLE who don't eat of it (nor their TWIN) by whose cutting all SEEN of that LOAF would be so");
        StrangeKnives z = Checks.town("plain 0 0;twin 1 0;plain 2 9;plain 3 0;loaf 0 60 0 9 0 3;cuts 1+slice*hunger;");
        Checks.due("nothing seen", z.who(0), 4);
        z.see(0, 0, 30);
        Checks.due("nobody", z.who(0), 0);
        z.forget();
        z.see(0, 0, 5);
        Checks.due("by his hunger", z.who(0), 4);
        z.see(0, 1, 54);
        Checks.due("both so", z.who(0), 4);
        z.see(0, 1, 53);
        Checks.due("not all so", z.who(0), 0);
    }

    private static void balked() {
        Checks.sentence("BALKED (at most 4)");
        StrangeKnives x = Checks.town(FOUR + "loaf 0 9 0 9 0;loaf 0 9 0 9 1;");
        for (int k = 1; k <= 4; k++) {
            Checks.due("balk()", x.balk(1, 0), k);
        }
        Checks.due("a fifth", x.balk(3, 1), -1);
        Checks.due("four stay", x.count(10), 4);
        Checks.due("the fifth doesn't count", x.whom(1), 1);
        Checks.sentence("couples of PEOPLE (the lesser first) of whom one at least doesn't know the other one");
        Checks.due("nobody", new StrangeKnives().whom(0), 0);
        Checks.due("strangers all", Checks.town(FOUR).whom(0), 6);
        Checks.due("friends all", Checks.town("plain 0 0;".repeat(4)).whom(0), 0);
        Checks.due("the first of none", Checks.town("plain 0 0;".repeat(4)).whom(1), -1);
        Checks.due("a deaf one doesn't", Checks.town("deaf 0 0;plain 1 0;met 0 1 0;").whom(0), 1);
        Checks.due("the last couple of eight", Checks.town("plain 0 0;".repeat(6) + "plain 1 0;plain 2 0;"
                + "met 0 6 0;met 1 6 0;met 2 6 0;met 3 6 0;met 4 6 0;met 5 6 0;"
                + "met 0 7 0;met 1 7 0;met 2 7 0;met 3 7 0;met 4 7 0;met 5 7 0;").whom(1), 67);
        Checks.sentence("that each such one knows an EATER of that LOAF (not himself)");
        StrangeKnives alone = Checks.town(FOUR + "loaf 0 9 0 9 0;");
        alone.balk(0, 0);
        Checks.due("he alone eats", alone.whom(0), 0);
        StrangeKnives already = Checks.town(FOUR + "met 0 1 0;loaf 0 9 0 9 0;");
        already.balk(1, 0);
        Checks.due("he knows one already", already.whom(0), 5);
        StrangeKnives twice = Checks.town(FOUR + "loaf 0 9 0 9 0;loaf 0 9 0 9 1;");
        twice.balk(1, 0);
        twice.balk(0, 1);
        Checks.due("one meeting for both", twice.whom(0), 1);
        twice.balk(2, 0);
        Checks.due("not for three", twice.whom(0), 0);
        StrangeKnives met = Checks.town("forget 1;" + FOUR + "met 0 1 1;loaf 0 9 0 9 0;");
        met.balk(1, 0);
        met.hours(24);
        Checks.due("he forgot, so they met today", met.whom(0), 1);
        Checks.due("these two", met.whom(1), 1);
    }

    private static void games() {
        Checks.sentence("who CAN CUT it, and alone chose it, gains its SIZE, others nothing");
        StrangeKnives x = Checks.town("plain 0 0;plain 1 0;plain 2 0;loaf 0 9 0 9 0;loaf 0 9 0 9 0;");
        Checks.due("each has one", x.game(1, 2, 0), 2);
        Checks.due("the first", x.game(1, 2, 1), 1);
        Checks.due("who can't cut any yields", x.game(0, 1, 0), 2);
        Checks.due("the first of these", x.game(0, 1, 1), 1);
        Checks.sentence("A couple RESTS, if neither gains more by another LOAF");
        StrangeKnives one = Checks.town("plain 0 0;plain 1 0;plain 2 0;loaf 0 9 0 9 0;");
        Checks.due("there is no other", one.game(1, 2, 0), 1);
        Checks.due("the only couple", one.game(1, 2, 1), 0);
        StrangeKnives six = Checks.town("plain 0 0;plain 1 0;" + "loaf 0 9 0 9 0 1;".repeat(6));
        Checks.due("nobody gains", six.game(0, 1, 0), 36);
        Checks.due("the first of all", six.game(0, 1, 1), 0);
        Checks.due("no loaves", Checks.town("plain 0 0;plain 1 0;").game(1, 0, 0), 0);
        Checks.due("none rests", Checks.town("plain 0 0;plain 1 0;").game(1, 0, 1), -1);
        StrangeKnives last = Checks.town("plain 0 0;plain 1 0;plain 2 0;" + "loaf 0 1 0 9 0;".repeat(4)
                + "loaf 0 999 0 9 0;loaf 0 999 0 9 0;");
        Checks.due("the two great ones", last.game(1, 2, 0), 2);
        Checks.due("10 by both", last.game(1, 2, 1), 45);
    }

    private static void gamesOfCutLoaves() {
        Checks.sentence("two each choose a LOAF (cut or not)");
        StrangeKnives x = Checks.town("plain 0 0;plain 1 0;plain 2 0;loaf 0 50 0 9 0;loaf 0 20 0 9 0;loaf 0 9 0 9 0;");
        int couples = x.game(1, 2, 0);
        x.cut(1, 0);
        Checks.due("as many rest", x.game(1, 2, 0), couples);
        Checks.due("the first", x.game(1, 2, 1), 1);
        x.cut(2, 1);
        x.cut(2, 2);
        Checks.due("all are cut", x.game(1, 2, 0), couples);
        x.hours(99);
        Checks.due("whatever day it is", x.game(1, 2, 0), couples);
        x.thank(1, 0);
        Checks.due("who knows him gains nothing, whatever he chooses", x.game(1, 2, 0), 3);
        Checks.due("the other one takes the largest of the rest", x.game(1, 2, 1), 1);
    }

    private static void seasons() {
        Checks.sentence("n DAYS (0 to 60)");
        StrangeKnives x = Checks.town("plain 0 0;plain 0 0;plain 1 0;loaf 0 9 0 9 0;loaf 0 9 0 9 0 1;");
        Checks.badArgument("season(1, -1, 0)", () -> x.season(1, -1, 0));
        Checks.due("no days", x.season(1, 0, 0), 0);
        Checks.due("no days, the fewest", x.season(1, 0, 1), 0);
        Checks.due("no days, couples", x.season(1, 0, 2), 1);
        Checks.badArgument("season(1, 61, 0)", () -> x.season(1, 61, 0));
        StrangeKnives apart = Checks.town("plain 0 0;deaf 1 0;loaf 0 9 0 9 0;");
        Checks.due("a deaf one can cut on sixty days", apart.season(1, 60, 0), 60);
        Checks.due("one on each", apart.season(1, 60, 1), 1);
        Checks.due("he never knows the other one", apart.season(1, 60, 2), 0);
        Checks.sentence("(as if none were cut)");
        apart.cut(1, 0);
        Checks.due("though it is cut", apart.season(1, 60, 0), 60);
        Checks.sentence("from the next one on");
        StrangeKnives forget = Checks.town("forget 1;plain 0 0;plain 1 0;met 0 1 1;loaf 0 9 0 9 0;");
        Checks.due("today they know each other", forget.season(1, 0, 2), 1);
        Checks.due("tomorrow no more", forget.season(1, 1, 2), 0);
        Checks.due("one can cut it tomorrow", forget.season(1, 1, 0), 1);
        Checks.sentence("(Without PEOPLE nothing is drawn.)");
        StrangeKnives empty = new StrangeKnives();
        for (int what = 0; what <= 2; what++) {
            Checks.due("sixty days of nobody", empty.season(Integer.MIN_VALUE, 60, what), 0);
        }
    }

    /** Draws one after the other as the document tells them, for as many people. */
    private static int metAfter(int seed, int n, int days) {
        int met = 0;
        int s = seed;
        for (int day = 0; day < days; day++) {
            s = s * 1103515245 + 12345;
            int one = (s >>> 16 & 32767) % n;
            s = s * 1103515245 + 12345;
            int other = (s >>> 16 & 32767) % n;
            if (one != other) {
                met |= 1 << 8 * Math.min(one, other) + Math.max(one, other);
            }
        }
        return Integer.bitCount(met);
    }

    private static void draws() {
        Checks.sentence("a DRAW of n is its bits 16 to 30 MOD n then");
        int[] seeds = {0, 1, -1, 12345, Integer.MAX_VALUE, Integer.MIN_VALUE, 77777777, -98765};
        for (int n = 1; n <= 3; n++) {
            StringBuilder text = new StringBuilder("forget 999;");
            for (int p = 0; p < n; p++) {
                text.append("plain ").append(p).append(" 0;");
            }
            StrangeKnives x = Checks.town(text.toString());
            for (int seed : seeds) {
                for (int days = 0; days <= 6; days++) {
                    Checks.due("couples of " + n + " by seed " + seed + " behind days " + days,
                            x.season(seed, days, 2), metAfter(seed, n, days));
                }
            }
        }
    }

    private static void sameDrawnTwice() {
        Checks.sentence("each DAY a DRAW of PEOPLE, then one of them again, who have MET then, if they are two");
        StrangeKnives one = Checks.town("plain 0 0;loaf 0 9 0 9 0;");
        Checks.due("one alone meets nobody", one.season(1, 60, 2), 0);
        Checks.due("nor can he cut his own", one.season(1, 60, 0), 0);
        // seed 1 draws 0 0, 1 1, 1 1 of two, then 0 1
        StrangeKnives two = Checks.town("plain 0 0;plain 1 0;loaf 0 9 0 9 0;");
        Checks.due("three days of one", two.season(1, 3, 2), 0);
        Checks.due("three loaves", two.season(1, 3, 0), 3);
        Checks.due("the fourth of two", two.season(1, 4, 2), 1);
        Checks.due("none can cut it then", two.season(1, 4, 1), 0);
        StrangeKnives twins = Checks.town("plain 0 0;twin 1 0;plain 2 0;loaf 0 9 0 9 0;loaf 0 9 0 9 2;");
        Checks.due("twins meet for both", twins.season(1, 60, 2), 3);
        Checks.sentence("the fewest on one DAY");
        StrangeKnives forget = Checks.town("forget 1;plain 0 0;plain 1 0;loaf 0 9 0 9 0;");
        Checks.due("the day of their meeting", forget.season(1, 6, 1), 0);
        Checks.due("on the sixth it is forgotten", forget.season(1, 6, 0), 4);
        Checks.sentence("how many couples know each other both ways at the end");
        Checks.due("they don't any more", forget.season(1, 6, 2), 0);
        Checks.due("they did ahead of that", forget.season(1, 5, 2), 1);
    }

    private static void fairest() {
        Checks.sentence("THE FAIREST for a LOAF: who CAN CUT it (were it not cut)");
        StrangeKnives cut = Checks.town(FOUR + "loaf 0 60 0 9 0 1;");
        cut.cut(3, 0);
        Checks.due("though it is cut", cut.fairest(0, -1), 2);
        Checks.due("for the first one, too", cut.fairest(0, 0), 2);
        Checks.sentence("the most that one of the SLICES has is least above the fewest that one has (of like ones the least); none");
        StrangeKnives x = Checks.town("plain 0 0;plain 1 0;plain 2 9;plain 3 3;plain 4 3;"
                + "loaf 0 60 9 1 0 1;loaf 0 60 9 1 0 1 2 3 4;loaf 0 60 9 1 0;cuts 1+slice*hunger;");
        Checks.due("of like ones the least", x.fairest(0, -1), 3);
        Checks.due("nobody can", x.fairest(1, -1), -1);
        Checks.due("one slice is fair", x.fairest(2, -1), 1);
        x.hours(99);
        Checks.due("whatever day it is", x.fairest(0, -1), 3);
        x.fair(31);
        Checks.due("nobody can any more", x.fairest(0, -1), -1);
        Checks.sentence("BEST FOR the i-th of EATERS: by whom he gets most, likewise");
        x.undo();
        Checks.due("for the last comer", x.fairest(0, 1), 2);
        Checks.due("for the first one the least", x.fairest(0, 0), 3);
        x.fair(31);
        Checks.due("for nobody", x.fairest(0, 1), -1);
    }

    private static void status() {
        Checks.sentence("STATUS: how many calls were refused: 0 TEXTS with a FAULT, 1 ACTS, 2 what is SEEN, BALKED");
        StrangeKnives x = Checks.town(FOUR + "loaf 0 9 9 9 0;");
        Checks.tell(x, "x");
        Checks.tell(x, "y");
        status(x, 2, 0, 0);
        x.cut(1, 0);
        x.thank(1, 1);
        x.fair(1);
        x.hours(0);
        status(x, 2, 4, 0);
        x.see(0, 1, 5);
        x.balk(1, 0);
        x.balk(1, 0);
        x.balk(1, 0);
        x.balk(1, 0);
        x.balk(1, 0);
        status(x, 2, 4, 2);
        x.undo();
        x.restore();
        x.noon();
        x.safe();
        status(x, 2, 4, 2);
        Checks.badArgument("town(1)", () -> x.town(1));
        Checks.noSuch("cut(9, 0)", () -> x.cut(9, 0));
        Checks.noSuch("thank(0, 9)", () -> x.thank(0, 9));
        Checks.noSuch("see(9, 0, 0)", () -> x.see(9, 0, 0));
        Checks.noSuch("balk(9, 0)", () -> x.balk(9, 0));
        status(x, 2, 4, 2);
    }

    private static void status(StrangeKnives x, int texts, int acts, int clues) {
        Checks.due("texts", x.count(12), texts);
        Checks.due("acts", x.count(13), acts);
        Checks.due("clues", x.count(14), clues);
    }

    private static void imageKeeps() {
        Checks.sentence("AN IMAGE keeps DAY and HOUR, who has MET when, what was cut by whom, thanks, ACTS that are kept, what is SEEN and BALKED, STATUS");
        StrangeKnives x = Checks.town(FOUR + "met 0 1 3;loaf 0 60 0 9 0 1;");
        x.cut(3, 0);
        x.thank(2, 3);
        x.hours(26);
        x.see(0, 0, 30);
        x.balk(2, 0);
        x.hours(0);
        x.hours(0);
        x.see(0, 7, 0);
        Checks.tell(x, "!");
        x.image();
        for (int k = 0; k < 3; k++) {
            x.undo();
        }
        x.forget();
        x.fair(15);
        x.fair(0);
        Checks.tell(x, "!");
        x.see(0, 7, 0);
        Checks.due("restore()", x.restore(), true);
        int[] due = {4, 1, 365, 12, 1, 2, 1, 2, 3, 1, 1, 0, 1, 2, 1};
        for (int what = 0; what < due.length; what++) {
            Checks.due("count(" + what + ")", x.count(what), due[what]);
        }
        Checks.due("met as told", x.met(0, 1), 4);
        Checks.due("met by thanks", x.met(2, 3), 1);
        Checks.due("never met", x.met(0, 3), -1);
        Checks.due("cut by", x.loaf(0, 6), 3);
        Checks.due("thanked", x.person(3, 4), 1);
        Checks.due("undo() the hours", x.undo(), 2);
        Checks.due("undo() the thanks", x.undo(), 1);
        Checks.due("thanked no more", x.person(3, 4), 0);
    }

    private static void longestUse() {
        Checks.sentence("An object is used for at most 512 calls after it has been made");
        StrangeKnives x = new StrangeKnives();
        for (int k = 0; k < 13; k++) {
            x.feed(0x20202020, 0x20202020, 0x20202020, 0x20202020, 0x20202020);
        }
        x.town(260);
        for (int k = 14; k < 511; k++) {
            x.image();
            x.restore();
        }
        Checks.due("the last call", x.season(1, 60, 0), 0);
        StrangeKnives y = Checks.town("plain 0 0;plain 1 0;loaf 0 9 0 9 0;");
        for (int k = 1; k <= 500; k++) {
            Checks.due("thanked", y.thank(0, 1), k);
        }
        Checks.due("acts", y.count(8), 40);
    }
}
