/** Towns at all their limits at once, and the first and the last of everything. */
public final class LimitsTest {
    /** The last two know nobody; all others know each other, and eat of all. */
    private static final String SIX = "plain 0 0;plain 1 0;plain 2 0;plain 3 0;plain 4 0;plain 5 0;";
    private static final String REST = "forget 999;noon 23;cuts 1;" + allMeet() + "met 0 1 9;"
            + "loaf 0 600 0 23 0 1 2 3 4 5;".repeat(6);

    public static void main(String[] args) {
        fullTown();
        fullTownCut();
        fullTownOfClues();
        fullSeason();
        fullTownOfTwins();
        firstOneCuts();
        firstOneCarries();
        rowsTriedAndLeft();
        laterRowsAreBetter();
        rowsOfFewerLoaves();
        fairOfSixSlices();
        leastGain();
        knowingIsSeenAtOnce();
        thirdTown();
        townBehindManyActs();
        actsOfAllKinds();
        imageOfOtherActs();
        imageOfOtherClues();
        cluesOfOtherLoaves();
        ruleOfOneStep();
        shorterRuleInTheSameRows();
        valuesOfWhoCuts();
        wordsOfOtherLetters();
        Checks.finish();
    }

    private static String allMeet() {
        StringBuilder text = new StringBuilder();
        for (int a = 0; a < 6; a++) {
            for (int b = a + 1; b < 6; b++) {
                text.append("met ").append(a).append(' ').append(b).append(" 9;");
            }
        }
        return text.toString();
    }

    private static StrangeKnives full(String lastKind) {
        return Checks.town(SIX + lastKind + " 6 0;" + lastKind + " 7 0;" + REST);
    }

    private static void fullTown() {
        StrangeKnives x = full("plain");
        Checks.due("people", x.count(0), 8);
        Checks.due("loaves", x.count(1), 6);
        Checks.due("couples", x.count(7), 15);
        Checks.due("familiar()", x.familiar(), 0);
        Checks.due("ring()", x.ring(), 193);
        Checks.due("safe()", x.safe(), 127);
        Checks.due("help()", x.help(), 4);
        Checks.due("doors()", x.doors(), 64);
        Checks.due("noon()", x.noon(), -2);
        for (int p = 0; p < 8; p++) {
            Checks.due("known by " + p, x.person(p, 5), p < 6 ? 63 & ~(1 << p) : 0);
            Checks.due("met(" + p + ", last)", p == 7 ? -1 : x.met(p, 7), -1);
            for (int l = 0; l < 6; l++) {
                Checks.due("may(" + p + ", " + l + ")", x.may(p, l), p < 6 ? 1 : 0);
                for (int i = 0; i < 6; i++) {
                    Checks.due("slice(" + p + ", " + l + ", " + i + ")", x.slice(p, l, i), 100);
                }
                Checks.due("crumbs", x.slice(p, l, -1), 0);
            }
        }
        for (int l = 0; l < 6; l++) {
            Checks.due("eaters", x.loaf(l, 4), 63);
            Checks.due("slices", x.loaf(l, 5), 6);
            Checks.due("who may", x.loaf(l, 7), 192);
            Checks.due("who(" + l + ")", x.who(l), 192);
            Checks.due("why(" + l + ", 1)", x.why(l, 1), 63);
            Checks.due("fairest", x.fairest(l, -1), 6);
            Checks.due("best for the last", x.fairest(l, 5), 6);
        }
    }

    private static void fullTownCut() {
        StrangeKnives x = full("plain");
        Checks.due("cut(6, 0)", x.cut(6, 0), true);
        Checks.due("noon() of five", x.noon(), 30);
        for (int l = 0; l < 6; l++) {
            Checks.due("carried(" + l + ")", x.carried(l), l == 0 ? -1 : 6);
        }
        for (int l = 1; l < 6; l++) {
            Checks.due("cut(7, " + l + ")", x.cut(7, l), true);
        }
        Checks.due("all are cut", x.count(6), 6);
        Checks.due("noon() of none", x.noon(), 0);
        Checks.due("help()", x.help(), 0);
        Checks.due("doors()", x.doors(), 0);
        Checks.due("safe()", x.safe(), 255);
        Checks.due("fair(255)", x.fair(255), 8);
        Checks.due("familiar()", x.familiar(), 255);
        Checks.due("ring()", x.ring(), 1);
        Checks.due("couples", x.count(7), 28);
        for (int k = 0; k < 7; k++) {
            Checks.due("undo()", x.undo(), 6 - k);
        }
        Checks.due("none is cut", x.count(6), 0);
    }

    private static void fullTownOfClues() {
        StrangeKnives x = full("plain");
        Checks.due("whom(0)", x.whom(0), 13);
        Checks.due("whom(1)", x.whom(1), 6);
        for (int l = 0; l < 6; l++) {
            Checks.due("see", x.see(l, 5, 100), l + 1);
            Checks.due("who(" + l + ")", x.who(l), 192);
        }
        Checks.due("balk(6, 5)", x.balk(6, 5), 1);
        Checks.due("whom(0) of one", x.whom(0), 6);
        Checks.due("whom(1) of one", x.whom(1), 6);
        Checks.due("balk(7, 5)", x.balk(7, 5), 2);
        Checks.due("whom(0) of two", x.whom(0), 0);
        Checks.due("game(6, 7, 0)", x.game(6, 7, 0), 30);
        Checks.due("game(6, 7, 1)", x.game(6, 7, 1), 1);
        Checks.due("game(0, 1, 0)", x.game(0, 1, 0), 36);
    }

    private static void fullSeason() {
        StrangeKnives x = full("deaf");
        Checks.due("all days, all loaves", x.season(1, 60, 0), 360);
        Checks.due("the fewest", x.season(1, 60, 1), 6);
        Checks.due("couples", x.season(1, 60, 2), 15);
        Checks.due("a fair leaves the deaf", x.safe(), 255);
        Checks.due("fair(255)", x.fair(255), 8);
        Checks.due("the deaf know nobody", x.person(6, 5) + x.person(7, 5), 0);
        Checks.due("all others know all", x.familiar(), 63);
        Checks.due("they still may cut", x.loaf(5, 7), 192);
    }

    private static void fullTownOfTwins() {
        StrangeKnives x = Checks.town("plain 0 0;twin 1 0;plain 2 0;twin 3 0;plain 4 0;twin 5 0;plain 6 0;"
                + "twin 7 0;loaf 0 600 0 23 0 1 2 3 4 5;loaf 0 600 0 23 7;cuts slice+1;");
        Checks.due("slices", x.loaf(0, 5), 3);
        int[] due = {100, 100, 200, 200, 300, 300};
        for (int i = 0; i < 6; i++) {
            Checks.due("slice(7, 0, " + i + ")", x.slice(7, 0, i), due[i]);
        }
        Checks.due("who may", x.loaf(0, 7), 192);
        Checks.due("his twin may not", x.may(6, 1), 1);
        Checks.due("couples", x.count(7), 4);
        x.fair(0x81);
        Checks.due("both pairs", x.met(1, 6), 0);
        Checks.due("four couples more", x.count(7), 8);
        Checks.due("nobody may", x.loaf(0, 7), 0);
        Checks.due("ring()", x.ring(), 1 + 4 + 16);
    }

    private static void firstOneCuts() {
        StrangeKnives x = Checks.town("plain 0 0;plain 1 0;loaf 9 60 0 9 1;");
        Checks.due("fairest", x.fairest(0, -1), 0);
        Checks.due("best", x.fairest(0, 0), 0);
        Checks.due("doors", x.doors(), 1);
        Checks.due("help", x.help(), 0);
        Checks.due("season", x.season(1, 1, 0), 1);
        Checks.due("who", x.who(0), 1);
        Checks.due("who may", x.loaf(0, 7), 1);
        Checks.due("safe", x.safe(), -1);
        StrangeKnives y = Checks.town("plain 0 0;plain 1 0;plain 2 0;loaf 9 60 0 9 1;met 1 2 0;");
        Checks.due("the first may meet who doesn't eat", y.safe(), 5);
        Checks.due("cut", x.cut(0, 0), true);
        Checks.due("by the first", x.loaf(0, 6), 0);
    }

    private static void firstOneCarries() {
        StrangeKnives x = Checks.town("plain 3 0;plain 5 0;plain 1 0;loaf 1 9 0 9 1;loaf 3 9 0 9 1;loaf 2 9 0 9 1;");
        Checks.due("noon()", x.noon(), 1);
        Checks.due("the third", x.carried(0), 2);
        Checks.due("the first", x.carried(1), 0);
        Checks.due("of like ones the first", x.carried(2), 0);
        StrangeKnives eight = Checks.town("plain 9 0;plain 8 0;plain 8 0;plain 8 0;plain 8 0;plain 8 0;plain 8 0;"
                + "plain 0 0;noon 1;loaf 0 9 1 9 0;");
        Checks.due("the last one alone", eight.noon(), 0);
        Checks.due("carried(0)", eight.carried(0), 7);
    }

    /** The first row that comes to mind gives the first loaf to who must have the second. */
    private static void rowsTriedAndLeft() {
        StrangeKnives x = Checks.town("noon 2;plain 1 0;plain 0 0;plain 9 0;loaf 0 9 0 9 2;loaf 1 9 2 9 2;");
        x.hours(1);
        Checks.due("noon()", x.noon(), 0);
        Checks.due("carried(0)", x.carried(0), 1);
        Checks.due("carried(1)", x.carried(1), 0);
        StrangeKnives y = Checks.town("noon 3;plain 1 0;plain 3 0;plain 9 0;loaf 0 9 2 9 2;loaf 2 9 0 1 2;loaf 4 9 2 9 2;");
        Checks.due("three ways to two", y.noon(), 3);
        Checks.due("carried(0)", y.carried(0), 0);
        Checks.due("carried(1)", y.carried(1), 0);
        Checks.due("carried(2)", y.carried(2), 1);
    }

    /** Rows that come first carry further, all of them; asked again, the answer is the same. */
    private static void laterRowsAreBetter() {
        StrangeKnives one = Checks.town("plain 9 0;plain 3 0;plain 2 0;loaf 0 9 0 9 0;");
        Checks.due("two houses ahead of three", one.noon(), 2);
        Checks.due("carried(0)", one.carried(0), 2);
        StrangeKnives two = Checks.town("plain 9 0;plain 3 0;plain 2 0;loaf 0 9 0 9 0;loaf 0 9 0 9 0;");
        for (int k = 0; k < 3; k++) {
            Checks.due("two of two houses", two.noon(), 4);
            Checks.due("carried(0)", two.carried(0), 2);
            Checks.due("carried(1)", two.carried(1), 2);
        }
        StrangeKnives five = Checks.town("plain 9 0;plain 3 0;plain 0 0;" + "loaf 0 9 0 9 0;".repeat(5));
        Checks.due("none of five is carried", five.noon(), 0);
        for (int l = 0; l < 5; l++) {
            Checks.due("carried(" + l + ")", five.carried(l), 2);
        }
    }

    /** What was thought of a loaf that is cut now doesn't hinder the others. */
    private static void rowsOfFewerLoaves() {
        String people = "plain 9 0;plain 2 0;plain 0 0;";
        String near = "loaf 0 9 0 9 0;";
        String far = "loaf 9 9 0 9 0;";
        String[] texts = {people + far + near + near, people + near + far + near, people + near + near + far};
        for (int cut = 0; cut < 3; cut++) {
            StrangeKnives x = Checks.town(texts[cut]);
            Checks.due("the far one is carried", x.noon(), 7);
            Checks.due("it is cut", x.cut(1, cut), true);
            Checks.due("then nothing is carried", x.noon(), 0);
            for (int l = 0; l < 3; l++) {
                Checks.due("carried(" + l + ")", x.carried(l), l == cut ? -1 : 2);
            }
            x.undo();
            Checks.due("and again", x.noon(), 7);
            Checks.due("to the first", x.carried(cut), 1);
        }
    }

    private static void fairOfSixSlices() {
        StrangeKnives x = Checks.town(SIX + "plain 6 9;plain 7 3;loaf 9 600 0 9 0 1 2 3 4 5;loaf 9 600 0 9 0;"
                + "cuts 1+slice*hunger;");
        Checks.due("of six", x.fairest(0, -1), 7);
        Checks.due("for the first of six", x.fairest(0, 0), 7);
        Checks.due("for the last of six", x.fairest(0, 5), 6);
        Checks.due("of one", x.fairest(1, -1), 1);
        Checks.due("of six again", x.fairest(0, -1), 7);
    }

    private static void leastGain() {
        StrangeKnives x = Checks.town("plain 0 0;plain 1 0;plain 2 0;loaf 0 1 0 9 0;loaf 0 9 0 9 0 1 2;");
        Checks.due("one crumb is more than nothing", x.game(1, 2, 0), 3);
        Checks.due("alone at it", x.game(1, 2, 1), 0);
        Checks.due("against who can't", x.game(0, 1, 0), 3);
        Checks.due("whose choice comes first", x.game(0, 1, 1), 0);
    }

    private static void knowingIsSeenAtOnce() {
        String text = "plain 0 0;plain 1 0;plain 2 0;loaf 0 9 0 9 0;";
        StrangeKnives x = Checks.town(text);
        Checks.due("loaf", x.loaf(0, 7), 6);
        x.thank(0, 1);
        Checks.due("loaf behind thanks", x.loaf(0, 7), 4);
        x.undo();
        Checks.due("why behind undo", x.why(0, 0), 6);
        x.fair(7);
        Checks.due("why behind a fair", x.why(0, 3), 6);
        x.undo();
        Checks.due("may behind undo", x.may(1, 0), 0);
        x.thank(0, 1);
        Checks.due("cut behind thanks", x.cut(1, 0), false);
        x.undo();
        Checks.due("cut behind undo", x.cut(1, 0), true);
        Checks.due("season", x.season(1, 60, 2), 3);
        Checks.due("strangers still", x.count(7), 0);
        Checks.due("season again", x.season(1, 60, 2), 3);
        Checks.due("ring behind a season", x.ring(), 7);
    }

    /** The rows of the first town are used again for the third. */
    private static void thirdTown() {
        StrangeKnives x = Checks.town("plain 0 0;plain 1 0;plain 2 0;met 0 1 3;loaf 0 9 0 9 0 1 2;forget 7;");
        Checks.due("second", Checks.tell(x, "child 3 3;"), 0);
        Checks.due("third", Checks.tell(x, "deaf 4 4;plain 5 5;loaf 0 9 0 9 1;"), 0);
        Checks.due("people", x.count(0), 2);
        Checks.due("kind", x.person(0, 0), 2);
        Checks.due("met", x.met(0, 1), -1);
        Checks.due("eaters", x.loaf(0, 4), 2);
        Checks.due("forget", x.count(2), 365);
        for (int k = 0; k < 3; k++) {
            Checks.due("a fault", Checks.tell(x, "plain 0 0;plain 0 0;met 0 1 0;loaf 0 1 0 1 0 1;cuts 1+"), 1);
        }
        Checks.due("people stay", x.count(0), 2);
        Checks.due("behind faults", Checks.tell(x, "plain 1 0;plain 2 0;plain 3 0;loaf 0 9 0 9 2;"), 0);
        Checks.due("people", x.count(0), 3);
        Checks.due("never met", x.met(0, 1), -1);
        Checks.due("one eats", x.loaf(0, 4), 4);
    }

    private static void townBehindManyActs() {
        String text = "plain 0 0;plain 1 0;loaf 0 9 0 9 0;";
        StrangeKnives x = Checks.town(text);
        x.cut(1, 0);
        x.thank(0, 1);
        x.hours(30);
        for (int k = 0; k < 40; k++) {
            x.thank(1, 0);
        }
        Checks.due("the same anew", Checks.tell(x, text), 0);
        Checks.due("day", x.count(4), 0);
        Checks.due("hour", x.count(5), 0);
        Checks.due("thanked", x.person(0, 4) + x.person(1, 4), 0);
        Checks.due("met", x.met(0, 1), -1);
        Checks.due("cut", x.loaf(0, 6), -1);
        x.hours(1);
        x.undo();
        Checks.due("day behind undo", x.count(4), 0);
        Checks.due("hour behind undo", x.count(5), 0);
        Checks.due("thanked behind undo", x.person(0, 4) + x.person(1, 4), 0);
    }

    /** Acts of each kind in turn, more than are kept, then undone one by one. */
    private static void actsOfAllKinds() {
        StrangeKnives x = Checks.town("plain 0 0;plain 1 0;plain 2 0;loaf 0 9 0 23 0;");
        int[] day = new int[60];
        int[] hour = new int[60];
        int[] met = new int[60];
        int[] thanked = new int[60];
        for (int k = 0; k < 55; k++) {
            day[k] = x.count(4);
            hour[k] = x.count(5);
            met[k] = x.met(0, 1);
            thanked[k] = x.person(2, 4);
            if (k % 4 == 0) {
                x.hours(7 + k);
            } else if (k % 4 == 1) {
                x.thank(k % 8 == 1 ? 0 : 1, 2);
            } else if (k % 4 == 2) {
                x.fair(k % 8 == 2 ? 3 : 6);
            } else {
                x.hours(24);
            }
        }
        for (int k = 54; k >= 15; k--) {
            Checks.due("undo()", x.undo(), k - 15);
            Checks.due("day", x.count(4), day[k]);
            Checks.due("hour", x.count(5), hour[k]);
            Checks.due("met", x.met(0, 1), met[k]);
            Checks.due("thanked", x.person(2, 4), thanked[k]);
        }
        Checks.due("no more", x.undo(), -1);
    }

    private static void imageOfOtherActs() {
        StrangeKnives x = Checks.town("plain 0 0;plain 1 0;plain 2 0;loaf 0 9 0 23 0;");
        x.hours(1);
        x.thank(0, 2);
        x.cut(1, 0);
        x.image();
        for (int k = 0; k < 3; k++) {
            x.undo();
        }
        x.cut(2, 0);
        x.hours(50);
        x.fair(6);
        x.hours(3);
        Checks.due("restore()", x.restore(), true);
        Checks.due("undo()", x.undo(), 2);
        Checks.due("not cut", x.loaf(0, 6), -1);
        Checks.due("thanked", x.person(2, 4), 1);
        Checks.due("hour", x.count(5), 1);
        Checks.due("undo()", x.undo(), 1);
        Checks.due("not thanked", x.person(2, 4), 0);
        Checks.due("not met", x.met(0, 2), -1);
        Checks.due("hour still", x.count(5), 1);
        Checks.due("undo()", x.undo(), 0);
        Checks.due("first hour", x.count(5), 0);
    }

    private static void imageOfOtherClues() {
        StrangeKnives x = Checks.town("plain 0 0;plain 1 0;plain 2 0;plain 3 0;loaf 0 61 0 9 0 1;loaf 0 60 0 9 2;");
        x.see(0, 1, 30);
        x.see(1, 0, 60);
        x.balk(2, 0);
        x.image();
        x.forget();
        x.see(1, 0, 59);
        x.see(0, 0, 29);
        x.see(1, 0, 3);
        x.balk(0, 1);
        x.balk(3, 1);
        x.balk(1, 1);
        x.restore();
        Checks.due("seen", x.count(9), 2);
        Checks.due("balked", x.count(10), 1);
        Checks.due("who(0)", x.who(0), 12);
        Checks.due("who(1)", x.who(1), 11);
        Checks.due("whom(0)", x.whom(0), 2);
        Checks.due("whom(1)", x.whom(1), 2);
        x.forget();
        x.image();
        x.see(0, 0, 1);
        x.balk(2, 0);
        x.restore();
        Checks.due("nothing was seen", x.count(9) + x.count(10), 0);
        StrangeKnives y = Checks.town("plain 0 0;plain 1 0;plain 2 0;loaf 0 60 0 9 0 1;cuts 1+slice;");
        y.see(0, 1, 40);
        y.image();
        y.forget();
        y.see(0, 0, 40);
        Checks.due("the first comer didn't get so much", y.who(0), 0);
        y.restore();
        Checks.due("the last comer did", y.who(0), 4);
    }

    private static void cluesOfOtherLoaves() {
        StrangeKnives x = Checks.town("plain 0 0;plain 1 0;plain 2 0;loaf 0 60 0 9 0 1;loaf 0 50 0 9 0 1;");
        x.see(1, 0, 25);
        Checks.due("another loaf's", x.who(0), 4);
        Checks.due("its own", x.who(1), 4);
        x.see(0, 1, 25);
        Checks.due("not so", x.who(0), 0);
        Checks.due("its own still", x.who(1), 4);
    }

    private static void ruleOfOneStep() {
        StrangeKnives x = Checks.town("plain 0 0;plain 1 0;plain 2 0;plain 3 0;loaf 0 100 0 9 0 1 2;cuts slice;");
        int[] due = {25, 25, 50};
        for (int i = 0; i < 3; i++) {
            Checks.due("slice(3, 0, " + i + ")", x.slice(3, 0, i), due[i]);
        }
    }

    /** The third town uses the first one's rows again: steps behind its rule's end don't count. */
    private static void shorterRuleInTheSameRows() {
        String people = "plain 0 0;plain 1 0;plain 2 0;loaf 0 100 0 9 0 1;";
        for (String longer : new String[] {"not slice", "not not slice", "slice+slice", "(slice and 1) or not 0"}) {
            StrangeKnives x = Checks.town(people + "cuts " + longer + ";");
            Checks.due("second", Checks.tell(x, people), 0);
            Checks.due("no rule", x.slice(2, 0, 1), 50);
            Checks.due("third", Checks.tell(x, people + "cuts slice*9;"), 0);
            Checks.due("nine of ten behind " + longer, x.slice(2, 0, 1), 90);
            Checks.due("fourth", Checks.tell(x, people + "cuts " + longer + ";"), 0);
            Checks.due("fifth", Checks.tell(x, people + "cuts slice;"), 0);
            Checks.due("one each behind " + longer, x.slice(2, 0, 1), 50);
        }
        StrangeKnives y = Checks.town("plain 0 0;plain 1 0;plain 2 0;plain 3 0;loaf 0 90 0 9 0 1 2;cuts not slice;");
        Checks.tell(y, "");
        Checks.tell(y, "plain 0 0;plain 1 0;plain 2 0;plain 3 0;loaf 0 100 0 9 0 1 2;cuts slice;");
        Checks.due("two of four", y.slice(3, 0, 2), 50);
    }

    /** A rule's value of who cuts: the last comer has 99 of 100, if it is so. */
    private static void isOfTheLast(StrangeKnives x, String people, String test, boolean so) {
        Checks.due("town", Checks.tell(x, people + "loaf 0 100 0 9 0 1;cuts 1+slice*98*(" + test + ");"), 0);
        x.thank(0, 2);
        x.thank(1, 2);
        Checks.due(test, x.slice(2, 0, 1), so ? 99 : 50);
    }

    private static void valuesOfWhoCuts() {
        StrangeKnives x = new StrangeKnives();
        String child = "plain 0 3;plain 1 4;child 2 7;";
        isOfTheLast(x, child, "not(kind=1)or 1", true);
        isOfTheLast(x, "plain 0 3;plain 1 4;plain 2 7;", "kind=0", true);
        isOfTheLast(x, "plain 0 3;plain 1 4;twin 2 7;", "kind=3", true);
        isOfTheLast(x, "plain 0 3;plain 1 4;twin 2 7;", "kind=0", false);
        isOfTheLast(x, "plain 0 3;plain 1 4;plain 2 7;", "hunger=7", true);
        isOfTheLast(x, "plain 0 3;plain 1 4;plain 2 7;", "hunger=3", false);
        isOfTheLast(x, "plain 0 3;plain 1 4;plain 2 7;", "thanked=2", true);
        isOfTheLast(x, "plain 0 3;plain 1 4;plain 2 7;", "thanked=0", false);
        isOfTheLast(x, "plain 0 3;plain 1 4;plain 2 7;", "size=100", true);
        isOfTheLast(x, "plain 0 3;plain 1 4;plain 2 7;", "slices=2", true);
        isOfTheLast(x, "plain 0 3;plain 1 4;plain 2 7;", "slice=1", true);
        Checks.tell(x, child + "loaf 0 100 0 9 0 1;cuts 1+(slice=0)*98*(kind=1 and hunger=7);");
        Checks.due("a child", x.slice(2, 0, 1), 99);
        Checks.due("another one", x.slice(1, 0, 1), 50);
    }

    private static void wordsOfOtherLetters() {
        for (String word : new String[] {"plain", "child", "deaf", "twin", "loaf", "met", "forget", "noon", "cuts"}) {
            for (int i = 0; i < word.length(); i++) {
                String other = word.substring(0, i) + "q" + word.substring(i + 1);
                Checks.faultAtMark("plain 0 0;plain 0 0;~" + other + " 1 1;", 1);
            }
            Checks.faultAtMark("plain 0 0;~" + word + "z 1 1;", 1);
        }
        for (String word : new String[] {"slice", "slices", "size", "kind", "hunger", "thanked"}) {
            for (int i = 0; i < word.length(); i++) {
                String other = word.substring(0, i) + "q" + word.substring(i + 1);
                Checks.faultAtMark("cuts ~" + other + ";", 3);
            }
            Checks.faultAtMark("cuts ~" + word + "z;", 3);
            Checks.fault("cuts " + word + ";", 0, -1);
        }
        for (String word : new String[] {"or", "and"}) {
            for (int i = 0; i < word.length(); i++) {
                String other = word.substring(0, i) + "q" + word.substring(i + 1);
                Checks.faultAtMark("cuts 1 ~" + other + " 1;", 1);
            }
        }
        Checks.faultAtMark("cuts ~nzt 1;", 3);
        Checks.faultAtMark("cuts ~zot 1;", 3);
        Checks.faultAtMark("cuts ~noz 1;", 3);
        Checks.faultAtMark("cuts ~z;", 3);
        Checks.faultAtMark("cuts ~a;", 3);
    }
}
