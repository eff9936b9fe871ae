import java.util.NoSuchElementException;

/** The bounds that the document's promises 1 to 34 name, each sentence by itself. */
public final class CallEdgeTest {
    private static final int LEAST = Integer.MIN_VALUE;
    private static final int MOST = Integer.MAX_VALUE;
    private static final String FOUR = "plain 0 0;plain 2 0;plain 4 0;plain 6 0;";
    /** Who isn't there, in a town of four. */
    private static final int[] NOBODY = {LEAST, -2, -1, 4, 8, 32, MOST};
    /** Which loaf isn't there, in a town of two loaves. */
    private static final int[] NO_LOAF = {LEAST, -2, -1, 2, 6, 32, MOST};

    /** A call of the class with numbers; what it answers doesn't matter. */
    private interface Call {
        void of(StrangeKnives x, int number);
    }

    public static void main(String[] args) {
        newObject();
        feed();
        fullTape();
        town();
        townWithFault();
        townAnew();
        townOfTooMuch();
        fault();
        count();
        nobodySuch();
        noLoafSuch();
        whatElse();
        met();
        slice();
        cut();
        thank();
        fair();
        hours();
        undo();
        noonKeeps();
        carried();
        see();
        balk();
        whom();
        why();
        fairest();
        forget();
        game();
        season();
        image();
        restore();
        asksChangeNothing();
        Checks.finish();
    }

    private static StrangeKnives two() {
        return Checks.town(FOUR + "loaf 0 60 0 9 0 1;loaf 2 50 3 9 0;");
    }

    private static void newObject() {
        Checks.sentence("Nobody, no LOAVES");
        StrangeKnives x = new StrangeKnives();
        int[] due = {0, 0, 365, 12, 0, 0, 0, 0, 0, 0, 0, 0, 0, 0, 0};
        for (int what = 0; what < due.length; what++) {
            Checks.due("count(" + what + ")", x.count(what), due[what]);
        }
        for (int nobody : new int[] {LEAST, -1, 0, 1, MOST}) {
            Checks.noSuch("person", () -> x.person(nobody, 0));
            Checks.noSuch("loaf", () -> x.loaf(nobody, 0));
            Checks.noSuch("met", () -> x.met(nobody, nobody));
            Checks.noSuch("knows", () -> x.knows(nobody, nobody));
            Checks.noSuch("thank", () -> x.thank(nobody, nobody));
            Checks.noSuch("carried", () -> x.carried(nobody));
            Checks.noSuch("game", () -> x.game(nobody, nobody, 0));
            Checks.noSuch("why", () -> x.why(nobody, 0));
        }
        Checks.due("fault()", x.fault(), -1);
        Checks.due("undo()", x.undo(), -1);
        Checks.due("fair(1)", x.fair(1), -1);
        Checks.due("restore()", x.restore(), false);
        Checks.due("noon()", x.noon(), 0);
        x.forget();
        x.image();
        Checks.due("restore() of an image", x.restore(), true);
    }

    private static void feed() {
        Checks.sentence("Twenty bytes come behind the tape, of each number the highest first: how many it has");
        StrangeKnives x = new StrangeKnives();
        Checks.due("feed", x.feed(0x706c6169, 0x6e203120, 0x323b6368, 0x696c6420, 0x3320343b), 20);
        Checks.due("feed", x.feed(0x64656166, 0x20352036, 0x3b202020, 0x20202020, 0x20202020), 40);
        Checks.due("town", x.town(40), 0);
        int[][] due = {{0, 1, 2}, {1, 3, 4}, {2, 5, 6}};
        for (int p = 0; p < 3; p++) {
            for (int what = 0; what < 3; what++) {
                Checks.due("person(" + p + ", " + what + ")", x.person(p, what), due[p][what]);
            }
        }
        for (int at = 0; at < 20; at++) {
            int[] v = {0x20202020, 0x20202020, 0x20202020, 0x20202020, 0x20202020};
            v[at / 4] ^= 0x80 << 24 - 8 * (at % 4);
            StrangeKnives y = new StrangeKnives();
            y.feed(v[0], v[1], v[2], v[3], v[4]);
            Checks.due("a byte above 127", y.town(20), 1);
            Checks.due("its place", y.fault(), at);
        }
        StrangeKnives z = new StrangeKnives();
        Checks.due("any numbers", z.feed(LEAST, MOST, -1, 0, 1), 20);
        Checks.due("are bytes, too", z.town(20), 1);
    }

    private static void fullTape() {
        Checks.sentence("NONE, and none come, if it would have more than 600");
        StrangeKnives x = new StrangeKnives();
        for (int k = 1; k <= 30; k++) {
            Checks.due("feed", x.feed(0x20202020, 0x20202020, 0x20202020, 0x20202020, 0x20202020), 20 * k);
        }
        Checks.due("a full tape", x.feed(0x21212121, 0x21212121, 0x21212121, 0x21212121, 0x21212121), -1);
        Checks.due("once more", x.feed(0, 0, 0, 0, 0), -1);
        Checks.due("bytes", x.count(11), 600);
        Checks.due("refused calls", x.count(12) + x.count(13) + x.count(14), 0);
        Checks.badArgument("town(601)", () -> x.town(601));
        Checks.due("none came", x.town(600), 0);
        Checks.due("then there is room", x.feed(0, 0, 0, 0, 0), 20);
    }

    private static void town() {
        Checks.sentence("The tape's first n bytes (it is empty then) are a TOWN");
        StrangeKnives x = new StrangeKnives();
        Checks.feed(x, "plain 1 1;plain 2 2;plain 3 3;!!!!!!!!!!");
        Checks.due("thirty of forty", x.town(30), 0);
        Checks.due("people", x.count(0), 3);
        Checks.due("the tape", x.count(11), 0);
        Checks.due("without bytes", x.town(0), 0);
        Checks.due("nobody then", x.count(0), 0);
        Checks.feed(x, "!");
        Checks.due("none of twenty", x.town(0), 0);
        Checks.due("the tape is empty", x.count(11), 0);
        Checks.feed(x, "noon 3;");
        Checks.due("what came behind it", x.town(7), 0);
        Checks.due("noon", x.count(3), 3);
    }

    private static void townWithFault() {
        Checks.sentence("or the FAULT (all stays, but STATUS)");
        StrangeKnives x = two();
        x.thank(1, 2);
        x.see(0, 0, 5);
        x.balk(3, 0);
        x.noon();
        x.image();
        x.hours(3);
        Checks.due("a text with a fault", Checks.tell(x, "noon 7;forget 3;plain 1 1;cuts 1;loaf"), 1);
        int[] due = {4, 2, 365, 12, 0, 3, 0, 1, 2, 1, 1, 0, 1, 0, 0};
        for (int what = 0; what < due.length; what++) {
            Checks.due("count(" + what + ")", x.count(what), due[what]);
        }
        Checks.due("the row", x.carried(0), 3);
        Checks.due("slices", x.slice(3, 0, 0), 30);
        Checks.due("met", x.met(1, 2), 0);
        Checks.due("the image", x.restore(), true);
        Checks.due("as the image", x.count(5), 0);
        Checks.due("a fault of each", Checks.tell(x, "forget 0;"), 2);
        Checks.due("the image still", x.restore(), true);
    }

    private static void townAnew() {
        Checks.sentence("ACTS, what is SEEN and BALKED, rows that are kept, the image are gone");
        String text = FOUR + "loaf 0 60 0 9 0 1;loaf 2 50 0 9 0;cuts 1+slice;";
        StrangeKnives x = Checks.town(text);
        x.cut(2, 0);
        x.thank(1, 2);
        x.fair(3);
        x.hours(30);
        x.see(0, 0, 5);
        x.balk(3, 0);
        x.undo();
        x.noon();
        x.image();
        Checks.due("the same text", Checks.tell(x, text), 0);
        Checks.due("acts", x.count(8), 0);
        Checks.due("undo()", x.undo(), -1);
        Checks.due("seen", x.count(9), 0);
        Checks.due("balked", x.count(10), 0);
        Checks.noSuch("the row", () -> x.carried(0));
        Checks.due("the image", x.restore(), false);
        Checks.sentence("all anew");
        Checks.due("cut", x.count(6), 0);
        Checks.due("by whom", x.loaf(0, 6), -1);
        Checks.due("thanked", x.person(2, 4), 0);
        Checks.due("met", x.met(0, 1), -1);
        Checks.due("rule", x.slice(3, 0, 0), 20);
        Checks.due("a text without a rule", Checks.tell(x, FOUR + "loaf 0 60 0 9 0 1;"), 0);
        Checks.due("no rule", x.slice(3, 0, 0), 30);
        Checks.due("loaves", x.count(1), 1);
        Checks.due("a text without twins", Checks.tell(x, "plain 0 0;twin 0 0;"), 0);
        Checks.tell(x, "plain 0 0;plain 1 0;");
        Checks.due("no twin", x.person(0, 3), -1);
    }

    private static void townOfTooMuch() {
        Checks.sentence("the tape has not so many, n below 0 (nothing changes)");
        StrangeKnives x = two();
        x.image();
        Checks.tell(x, "noon 5;!");
        Checks.feed(x, "noon 5;");
        for (int n : new int[] {LEAST, -21, -1, 21, 600, 601, MOST}) {
            Checks.badArgument("town(" + n + ")", () -> x.town(n));
        }
        Checks.due("the tape", x.count(11), 20);
        Checks.due("people", x.count(0), 4);
        Checks.due("the latest fault", x.fault(), 7);
        Checks.due("status", x.count(12), 1);
        Checks.due("the image", x.restore(), true);
        Checks.due("all of it", x.town(20), 0);
        Checks.badArgument("town(1) of an empty tape", () -> x.town(1));
        Checks.due("noon", x.count(3), 5);
    }

    private static void fault() {
        Checks.sentence("The place of the latest town()'s FAULT; NONE without");
        StrangeKnives x = new StrangeKnives();
        Checks.due("new", x.fault(), -1);
        Checks.tell(x, "!");
        Checks.due("at once", x.fault(), 0);
        Checks.tell(x, "noon 5; !");
        Checks.due("the latest", x.fault(), 8);
        Checks.tell(x, "noon 5;");
        Checks.due("without", x.fault(), -1);
        Checks.tell(x, " ".repeat(599) + "!");
        Checks.due("the last byte", x.fault(), 599);
        Checks.tell(x, " ".repeat(592) + "noon 555");
        Checks.due("ahead of the end", x.fault(), 597);
        Checks.tell(x, " ".repeat(594) + "noon 5");
        Checks.due("the text's end", x.fault(), 600);
        Checks.town("");
        x.town(0);
        Checks.due("a town without bytes has none", x.fault(), -1);
    }

    private static void count() {
        Checks.sentence("NoSuchElementException: another what");
        StrangeKnives x = two();
        for (int what : new int[] {LEAST, -1, 15, 16, MOST}) {
            Checks.noSuch("count(" + what + ")", () -> x.count(what));
        }
        Checks.due("count(14)", x.count(14), 0);
        Checks.sentence("7 couples who know each other both ways");
        Checks.due("all of eight", Checks.town("plain 0 0;".repeat(8)).count(7), 28);
        Checks.due("one way only", Checks.town("deaf 0 0;plain 1 0;met 0 1 0;").count(7), 0);
        Checks.due("nobody", Checks.town("plain 0 0;").count(7), 0);
        Checks.sentence("12 to 14 STATUS 0 to 2");
        Checks.tell(x, "!");
        x.hours(0);
        x.hours(0);
        x.see(0, 9, 0);
        x.see(0, 9, 0);
        x.see(0, 9, 0);
        for (int k = 0; k < 3; k++) {
            Checks.due("count(" + (12 + k) + ")", x.count(12 + k), k + 1);
        }
    }

    private static void eachNobody(String name, Call call) {
        StrangeKnives x = two();
        for (int nobody : NOBODY) {
            Checks.noSuch(name + " of " + nobody, () -> call.of(x, nobody));
        }
        call.of(x, 3);
        Checks.due(name + " of nobody is counted nowhere", x.count(13) + x.count(14) <= 1, true);
    }

    private static void nobodySuch() {
        Checks.sentence("no such PERSON (as everywhere)");
        eachNobody("person", (x, p) -> x.person(p, 0));
        eachNobody("met", (x, p) -> x.met(p, 1));
        eachNobody("met with", (x, p) -> x.met(1, p));
        eachNobody("knows", (x, p) -> x.knows(p, 1));
        eachNobody("knows whom", (x, p) -> x.knows(1, p));
        eachNobody("may", (x, p) -> x.may(p, 0));
        eachNobody("slice", (x, p) -> x.slice(p, 0, 0));
        eachNobody("cut", (x, p) -> x.cut(p, 0));
        eachNobody("thank", (x, p) -> x.thank(p, 1));
        eachNobody("thank whom", (x, p) -> x.thank(1, p));
        eachNobody("balk", (x, p) -> x.balk(p, 0));
        eachNobody("game", (x, p) -> x.game(p, 1, 0));
        eachNobody("game with", (x, p) -> x.game(1, p, 0));
    }

    private static void eachNoLoaf(String name, Call call) {
        StrangeKnives x = two();
        x.noon();
        for (int loaf : NO_LOAF) {
            Checks.noSuch(name + " of " + loaf, () -> call.of(x, loaf));
        }
        Checks.due(name + " of no loaf is counted nowhere", x.count(13) + x.count(14), 0);
        call.of(x, 1);
    }

    private static void noLoafSuch() {
        Checks.sentence("no such LOAF (as everywhere)");
        eachNoLoaf("loaf", (x, l) -> x.loaf(l, 0));
        eachNoLoaf("may", (x, l) -> x.may(3, l));
        eachNoLoaf("slice", (x, l) -> x.slice(3, l, 0));
        eachNoLoaf("cut", (x, l) -> x.cut(3, l));
        eachNoLoaf("carried", (x, l) -> x.carried(l));
        eachNoLoaf("see", (x, l) -> x.see(l, 0, 5));
        eachNoLoaf("who", (x, l) -> x.who(l));
        eachNoLoaf("balk", (x, l) -> x.balk(3, l));
        eachNoLoaf("why", (x, l) -> x.why(l, 0));
        eachNoLoaf("fairest", (x, l) -> x.fairest(l, 0));
    }

    private static void whatElse() {
        Checks.sentence("no such PERSON (as everywhere), what");
        StrangeKnives x = two();
        for (int what : new int[] {LEAST, -1, 6, MOST}) {
            Checks.noSuch("person(3, " + what + ")", () -> x.person(3, what));
        }
        Checks.due("person(3, 5)", x.person(3, 5), 0);
        Checks.sentence("no such LOAF (as everywhere), what");
        for (int what : new int[] {LEAST, -1, 8, MOST}) {
            Checks.noSuch("loaf(1, " + what + ")", () -> x.loaf(1, what));
        }
        Checks.due("loaf(1, 7)", x.loaf(1, 7), 0);
        Checks.sentence("3 whose TWIN (either way; NONE)");
        StrangeKnives y = Checks.town("plain 0 0;child 0 0;twin 0 0;");
        Checks.due("none", y.person(0, 3), -1);
        Checks.due("ahead", y.person(2, 3), 1);
        Checks.due("behind", y.person(1, 3), 2);
        Checks.sentence("5 whom he knows (bits, not himself)");
        Checks.due("the other two", y.person(0, 5), 6);
        Checks.sentence("6 by whom it was cut (NONE)");
        Checks.due("uncut", x.loaf(0, 6), -1);
        Checks.due("cut by the last one", x.cut(3, 0), true);
        Checks.due("cut", x.loaf(0, 6), 3);
        Checks.sentence("Whether the first knows the second one (himself: true)");
        Checks.due("himself", x.knows(3, 3), true);
        Checks.due("a deaf one himself", Checks.town("deaf 0 0;").knows(0, 0), true);
    }

    private static void met() {
        Checks.sentence("How many days ago two have MET last (TWINS for both); NONE: never");
        StrangeKnives x = Checks.town("plain 0 0;twin 1 0;plain 2 0;plain 3 0;met 2 0 9;met 1 2 4;met 0 2 6;");
        Checks.due("last", x.met(0, 2), 4);
        Checks.due("of both", x.met(2, 1), 4);
        Checks.due("never", x.met(0, 3), -1);
        x.hours(96);
        Checks.due("four days later", x.met(0, 2), 8);
        Checks.due("never still", x.met(3, 0), -1);
        Checks.sentence("IllegalArgumentException (behind NoSuchElementException): both are one");
        Checks.badArgument("met(0, 0)", () -> x.met(0, 0));
        Checks.badArgument("met(3, 3)", () -> x.met(3, 3));
        Checks.noSuch("met(4, 4)", () -> x.met(4, 4));
        Checks.noSuch("met(-1, -1)", () -> x.met(-1, -1));
    }

    private static void slice() {
        Checks.sentence("how much the i-th of EATERS gets (0 on), CRUMBS (i NONE). NoSuchElementException: also there is none such");
        StrangeKnives x = Checks.town(FOUR + "loaf 0 61 0 9 0 1;loaf 2 50 3 9 0;");
        Checks.due("the first", x.slice(3, 0, 0), 30);
        Checks.due("the last", x.slice(3, 0, 1), 30);
        Checks.due("crumbs", x.slice(3, 0, -1), 1);
        for (int i : new int[] {LEAST, -2, 2, 6, MOST}) {
            Checks.noSuch("slice(3, 0, " + i + ")", () -> x.slice(3, 0, i));
        }
        Checks.noSuch("another loaf's second", () -> x.slice(3, 1, 1));
        Checks.due("did an eater cut it", x.slice(0, 0, 0), 30);
        x.cut(3, 0);
        Checks.due("it was cut", x.slice(2, 0, 0), 30);
        x.hours(99);
        Checks.due("it is stale", x.slice(2, 0, 0), 30);
        Checks.due("nothing was refused", x.count(13), 0);
    }

    private static void cut() {
        Checks.sentence("A LOAF is CUT: true. False (STATUS 1): he may not");
        StrangeKnives x = Checks.town("plain 0 0;plain 0 0;plain 1 0;plain 2 0;plain 3 0;met 0 2 0;"
                + "loaf 0 9 2 1 0;");
        Checks.due("4", x.cut(3, 0), false);
        x.hours(2);
        Checks.due("1", x.cut(0, 0), false);
        Checks.due("2", x.cut(1, 0), false);
        Checks.due("3", x.cut(2, 0), false);
        Checks.due("nothing was cut", x.count(6), 0);
        Checks.due("refused", x.count(13), 4);
        Checks.due("acts", x.count(8), 1);
        Checks.due("0", x.cut(3, 0), true);
        Checks.due("6", x.cut(4, 0), false);
        Checks.due("by whom", x.loaf(0, 6), 3);
        x.undo();
        x.hours(2);
        Checks.due("5", x.cut(3, 0), false);
        Checks.due("refused, too", x.count(13), 6);
    }

    private static void thank() {
        Checks.sentence("how often that one was thanked. NONE (STATUS 1): both are one");
        StrangeKnives x = two();
        Checks.due("once", x.thank(0, 3), 1);
        Checks.due("twice", x.thank(0, 3), 2);
        Checks.due("both are one", x.thank(3, 3), -1);
        Checks.due("refused", x.count(13), 1);
        Checks.due("acts", x.count(8), 2);
        Checks.due("still twice", x.person(3, 4), 2);
        Checks.noSuch("nobody", () -> x.thank(4, 4));
        Checks.due("refused once", x.count(13), 1);
        for (int k = 3; k <= 100; k++) {
            Checks.due("many times", x.thank(0, 3), k);
        }
    }

    private static void fair() {
        Checks.sentence("how many are there. NONE (STATUS 1): fewer than 2, bits of PEOPLE that there aren't");
        StrangeKnives x = two();
        int[] none = {0, 1, 2, 4, 8, 16, 17, 19, 31, 32 + 3, LEAST, LEAST + 3, -1, MOST};
        for (int people : none) {
            Checks.due("fair(" + people + ")", x.fair(people), -1);
        }
        Checks.due("refused", x.count(13), none.length);
        Checks.due("nobody met", x.count(7), 0);
        Checks.due("no act", x.count(8), 0);
        Checks.due("two", x.fair(12), 2);
        Checks.due("all", x.fair(15), 4);
        StrangeKnives eight = Checks.town("plain 0 0;plain 1 0;plain 2 0;plain 3 0;plain 4 0;plain 5 0;"
                + "plain 6 0;plain 7 0;");
        Checks.due("all eight", eight.fair(255), 8);
        Checks.due("a ninth", eight.fair(511), -1);
        Checks.due("all know each other", eight.count(7), 28);
    }

    private static void hours() {
        Checks.sentence("HOURS: the HOUR then. NONE (STATUS 1): not 1 to 99; TODAY would be above 999");
        StrangeKnives x = two();
        for (int many : new int[] {LEAST, -1, 0, 100, 24000, MOST}) {
            Checks.due("hours(" + many + ")", x.hours(many), -1);
        }
        Checks.due("refused", x.count(13), 6);
        Checks.due("no act", x.count(8), 0);
        for (int k = 1; k <= 249; k++) {
            Checks.due("four days", x.hours(96), 0);
        }
        Checks.due("day 996", x.count(4), 996);
        Checks.due("above 999", x.hours(96), -1);
        Checks.due("nothing went by", x.count(4) * 24 + x.count(5), 996 * 24);
        Checks.due("the last hour of all", x.hours(95), 23);
        Checks.due("day 999", x.count(4), 999);
        Checks.due("one more", x.hours(1), -1);
        Checks.due("99 more", x.hours(99), -1);
        Checks.due("refused, too", x.count(13), 9);
        Checks.due("it is still", x.count(5), 23);
        x.undo();
        Checks.due("then again", x.hours(1), 1);
        Checks.due("a season goes on behind day 999", x.season(1, 60, 0), two().season(1, 60, 0));
        Checks.due("day 996 still", x.count(4), 996);
    }

    private static void undo() {
        Checks.sentence("The last ACT is UNDONE: how many are left. NONE: there is none");
        StrangeKnives x = two();
        Checks.due("none", x.undo(), -1);
        x.fair(3);
        x.thank(2, 3);
        Checks.due("one is left", x.undo(), 1);
        Checks.due("none is left", x.undo(), 0);
        Checks.due("there is none", x.undo(), -1);
        Checks.due("again none", x.undo(), -1);
        Checks.due("that isn't refused", x.count(13), 0);
        x.fair(1);
        Checks.due("what was refused is no act", x.undo(), -1);
        x.see(0, 0, 5);
        x.balk(3, 0);
        Checks.due("nor is what is seen or balked", x.undo(), -1);
        Checks.due("these stay", x.count(9) + x.count(10), 2);
    }

    private static void noonKeeps() {
        Checks.sentence("HOUSES carried; the row is kept; NONE: none; -2: SPENT (in both what is kept stays)");
        StrangeKnives x = Checks.town("plain 0 0;plain 5 0;plain 6 0;" + "loaf 5 9 0 2 0;".repeat(6));
        Checks.due("spent", x.noon(), -2);
        Checks.noSuch("no row is kept", () -> x.carried(0));
        x.cut(2, 0);
        Checks.due("five", x.noon(), 2);
        int[] row = {-1, 1, 1, 1, 2, 2};
        row(x, row);
        x.undo();
        Checks.due("spent again", x.noon(), -2);
        row(x, row);
        x.cut(2, 5);
        x.hours(2);
        Checks.due("none", x.noon(), -1);
        row(x, row);
        x.undo();
        Checks.due("another row", x.noon(), 2);
        row(x, 1, 1, 1, 2, 2, -1);
        Checks.due("no act", x.count(8), 1);
    }

    private static void row(StrangeKnives x, int... due) {
        for (int l = 0; l < due.length; l++) {
            Checks.due("carried(" + l + ")", x.carried(l), due[l]);
        }
    }

    private static void carried() {
        Checks.sentence("Who cuts a LOAF by the row that is kept; NONE: it was cut then. NoSuchElementException: also none is kept");
        StrangeKnives x = Checks.town("plain 0 0;plain 5 0;loaf 5 9 0 2 0;loaf 5 9 0 2 0;");
        Checks.noSuch("none is kept", () -> x.carried(0));
        x.hours(9);
        Checks.due("none", x.noon(), -1);
        Checks.noSuch("none is kept still", () -> x.carried(1));
        x.undo();
        x.cut(1, 0);
        x.noon();
        row(x, -1, 1);
        x.undo();
        x.cut(1, 1);
        row(x, -1, 1);
        x.noon();
        row(x, 1, -1);
    }

    private static void see() {
        Checks.sentence("NONE (STATUS 2): there are 6, there is no such EATER, not 0 to 999. NoSuchElementException (ahead): no such LOAF");
        StrangeKnives x = two();
        for (int i : new int[] {LEAST, -1, 2, 6, MOST}) {
            Checks.due("no such eater", x.see(0, i, 5), -1);
        }
        Checks.due("another loaf's second", x.see(1, 1, 5), -1);
        for (int much : new int[] {LEAST, -1, 1000, MOST}) {
            Checks.due("not 0 to 999", x.see(0, 0, much), -1);
        }
        Checks.due("refused", x.count(14), 10);
        Checks.due("nothing is seen", x.count(9), 0);
        Checks.noSuch("no such loaf", () -> x.see(2, -1, 1000));
        Checks.due("0", x.see(0, 0, 0), 1);
        Checks.due("999", x.see(0, 1, 999), 2);
        for (int k = 3; k <= 6; k++) {
            Checks.due("more", x.see(1, 0, 50), k);
        }
        Checks.due("a seventh", x.see(1, 0, 50), -1);
        Checks.noSuch("no such loaf, though there are 6", () -> x.see(2, 0, 5));
        Checks.due("refused, too", x.count(14), 11);
    }

    private static void balk() {
        Checks.sentence("NONE (STATUS 2): there are 4. NoSuchElementException (ahead): no such PERSON, LOAF");
        StrangeKnives x = two();
        for (int k = 1; k <= 4; k++) {
            Checks.due("balk", x.balk(k - 1, 0), k);
        }
        Checks.due("a fifth", x.balk(0, 0), -1);
        Checks.due("refused", x.count(14), 1);
        Checks.noSuch("nobody, though there are 4", () -> x.balk(4, 0));
        Checks.noSuch("no loaf, though there are 4", () -> x.balk(0, 2));
        Checks.due("refused once", x.count(14), 1);
        Checks.due("seen has room", x.see(0, 0, 5), 1);
    }

    private static void whom() {
        Checks.sentence("how many couples (what 0), the first (1; NONE: none). NoSuchElementException: another what");
        StrangeKnives x = two();
        for (int what : new int[] {LEAST, -1, 2, MOST}) {
            Checks.noSuch("whom(" + what + ")", () -> x.whom(what));
        }
        Checks.due("all", x.whom(0), 6);
        Checks.due("the first", x.whom(1), 1);
        x.fair(15);
        Checks.due("no couple", x.whom(0), 0);
        Checks.due("none", x.whom(1), -1);
    }

    private static void why() {
        Checks.sentence("Those of whom may() of a LOAF is so (0 to 6), as bits. NoSuchElementException: also no such answer");
        StrangeKnives x = two();
        for (int answer : new int[] {LEAST, -1, 7, MOST}) {
            Checks.noSuch("why(0, " + answer + ")", () -> x.why(0, answer));
        }
        int[] first = {12, 3, 0, 0, 0, 0, 0};
        int[] second = {0, 1, 0, 0, 14, 0, 0};
        for (int answer = 0; answer <= 6; answer++) {
            Checks.due("why(0, " + answer + ")", x.why(0, answer), first[answer]);
            Checks.due("why(1, " + answer + ")", x.why(1, answer), second[answer]);
        }
        x.cut(2, 0);
        Checks.due("cut", x.why(0, 6), 12);
        x.hours(10);
        Checks.due("stale", x.why(0, 5), 12);
        Checks.due("no longer 6", x.why(0, 6), 0);
    }

    private static void fairest() {
        Checks.sentence("BEST FOR the i-th of EATERS; NONE: nobody can. NoSuchElementException: also there is none such");
        StrangeKnives x = two();
        for (int i : new int[] {LEAST, -2, 2, 6, MOST}) {
            Checks.noSuch("fairest(0, " + i + ")", () -> x.fairest(0, i));
        }
        Checks.noSuch("another loaf's second", () -> x.fairest(1, 1));
        Checks.due("the fairest", x.fairest(0, -1), 2);
        Checks.due("for the last", x.fairest(0, 1), 2);
        x.fair(15);
        Checks.due("nobody can", x.fairest(0, -1), -1);
        Checks.due("nobody can for him", x.fairest(0, 1), -1);
        Checks.noSuch("none such, though nobody can", () -> x.fairest(0, 2));
    }

    private static void forget() {
        Checks.sentence("What is SEEN and BALKED is forgotten");
        StrangeKnives x = two();
        for (int k = 0; k < 7; k++) {
            x.see(0, 0, 5);
            x.balk(3, 0);
        }
        x.forget();
        Checks.due("nothing seen", x.count(9), 0);
        Checks.due("nothing balked", x.count(10), 0);
        Checks.due("what was refused stays", x.count(14), 4);
        Checks.due("who", x.who(0), 12);
        Checks.due("whom", x.whom(0), 6);
        Checks.due("there is room", x.see(0, 0, 5), 1);
        Checks.due("and here", x.balk(3, 0), 1);
        x.forget();
        x.forget();
        Checks.due("nothing again", x.count(9) + x.count(10), 0);
    }

    private static void game() {
        Checks.sentence("NoSuchElementException: also another what. IllegalArgumentException (behind that): both are one");
        StrangeKnives x = two();
        for (int what : new int[] {LEAST, -1, 2, MOST}) {
            Checks.noSuch("game(0, 1, " + what + ")", () -> x.game(0, 1, what));
            Checks.noSuch("game(1, 1, " + what + ")", () -> x.game(1, 1, what));
        }
        Checks.noSuch("game(4, 4, 0)", () -> x.game(4, 4, 0));
        Checks.badArgument("game(3, 3, 0)", () -> x.game(3, 3, 0));
        Checks.badArgument("game(0, 0, 1)", () -> x.game(0, 0, 1));
        Checks.due("each takes one", x.game(2, 3, 0), 2);
        Checks.due("the first", x.game(2, 3, 1), 1);
    }

    private static void season() {
        Checks.sentence("all (what 0), the fewest (1; 0 without DAYS), couples (2). NoSuchElementException: another what. IllegalArgumentException (behind that): n");
        StrangeKnives x = two();
        for (int what : new int[] {LEAST, -1, 3, MOST}) {
            Checks.noSuch("season(1, 5, " + what + ")", () -> x.season(1, 5, what));
            Checks.noSuch("season(1, 61, " + what + ")", () -> x.season(1, 61, what));
        }
        for (int n : new int[] {LEAST, -1, 61, MOST}) {
            Checks.badArgument("season(1, " + n + ", 0)", () -> x.season(1, n, 0));
            Checks.badArgument("season(1, " + n + ", 2)", () -> x.season(1, n, 2));
        }
        Checks.due("without days", x.season(LEAST, 0, 1), 0);
        Checks.due("one day of two loaves", x.season(1, 1, 0), 2);
        Checks.due("any seed", x.season(MOST, 60, 1) >= 0, true);
        Checks.due("today is as it was", x.count(4), 0);
        Checks.due("nobody has met", x.count(7), 0);
    }

    private static void image() {
        Checks.sentence("AN IMAGE is kept, in place of another one");
        StrangeKnives x = two();
        x.image();
        x.hours(1);
        x.image();
        x.hours(1);
        Checks.due("restore()", x.restore(), true);
        Checks.due("the later one", x.count(5), 1);
        Checks.due("undo() is behind both", x.undo(), 0);
        Checks.due("restore() once more", x.restore(), true);
        Checks.due("the later one still", x.count(5), 1);
    }

    private static void restore() {
        Checks.sentence("It is as the IMAGE again: true. False: there is none");
        StrangeKnives x = two();
        Checks.due("there is none", x.restore(), false);
        x.fair(3);
        x.cut(3, 0);
        for (int k = 0; k < 38; k++) {
            x.thank(1, 2);
        }
        x.hours(0);
        x.see(0, 0, 30);
        x.see(0, 5, 30);
        x.balk(3, 0);
        x.image();
        x.hours(50);
        x.thank(3, 0);
        x.thank(3, 0);
        x.forget();
        x.balk(1, 1);
        x.see(1, 0, 1);
        Checks.tell(x, "!");
        Checks.due("it is so", x.restore(), true);
        int[] due = {4, 2, 365, 12, 0, 0, 1, 2, 40, 1, 1, 0, 0, 1, 1};
        for (int what = 0; what < due.length; what++) {
            Checks.due("count(" + what + ")", x.count(what), due[what]);
        }
        Checks.due("met", x.met(3, 0), -1);
        Checks.due("thanked", x.person(2, 4), 38);
        Checks.due("cut", x.loaf(0, 6), 3);
        Checks.due("seen", x.who(0), 12);
        Checks.due("balked", x.whom(0), 2);
        for (int left = 39; left >= 0; left--) {
            Checks.due("undo()", x.undo(), left);
        }
        Checks.due("nothing is left", x.undo(), -1);
        Checks.due("nobody met", x.met(0, 1), -1);
        Checks.due("uncut", x.loaf(0, 6), -1);
        Checks.tell(x, FOUR);
        Checks.due("another town has none", x.restore(), false);
    }

    /** Answers of every asking call, one behind the other, as one number. */
    private static long allAnswers(StrangeKnives x) {
        long sum = 0;
        for (int what = 0; what < 15; what++) {
            sum = sum * 31 + x.count(what);
        }
        for (int p = 0; p < 4; p++) {
            for (int q = 0; q < 4; q++) {
                sum = sum * 31 + (x.knows(p, q) ? 1 : 0);
                sum = sum * 31 + (p == q ? 0 : x.met(p, q));
                sum = sum * 31 + (p == q ? 0 : x.game(p, q, 0) * 100 + x.game(p, q, 1));
            }
            for (int what = 0; what < 6; what++) {
                sum = sum * 31 + x.person(p, what);
            }
        }
        for (int l = 0; l < 2; l++) {
            for (int what = 0; what < 8; what++) {
                sum = sum * 31 + x.loaf(l, what);
            }
            sum = sum * 31 + x.who(l) + 100 * x.fairest(l, -1) + 1000 * x.fairest(l, 0);
            for (int p = 0; p < 4; p++) {
                sum = sum * 31 + x.may(p, l) + 10 * x.slice(p, l, 0) + 10000 * x.slice(p, l, -1);
            }
            sum = sum * 31 + x.carried(l) + 10 * x.why(l, 0);
        }
        sum = sum * 31 + x.familiar() + 100 * x.ring();
        sum = sum * 31 + x.safe() + 100 * x.help() + 1000 * x.doors();
        sum = sum * 31 + x.whom(0) + 100 * x.whom(1) + 10000 * x.season(5, 60, 0);
        return sum * 31 + x.fault() + x.season(6, 60, 1) + 10 * x.season(7, 60, 2);
    }

    private static void asksChangeNothing() {
        Checks.sentence("Nothing is promised beyond the answers and state changes described above");
        StrangeKnives x = two();
        x.noon();
        x.thank(1, 3);
        x.cut(2, 0);
        x.see(0, 0, 30);
        x.balk(2, 1);
        long first = allAnswers(x);
        Checks.due("asked again", allAnswers(x), first);
        wrongCalls(x);
        Checks.due("asked behind wrong calls", allAnswers(x), first);
    }

    /** Calls that throw change nothing. */
    private static void wrongCalls(StrangeKnives x) {
        Call[] calls = {(y, n) -> y.count(n), (y, n) -> y.person(n, n), (y, n) -> y.loaf(n, n),
            (y, n) -> y.met(n, n), (y, n) -> y.knows(n, 0), (y, n) -> y.may(0, n), (y, n) -> y.slice(0, 0, n),
            (y, n) -> y.cut(n, 0), (y, n) -> y.thank(n, n), (y, n) -> y.carried(n), (y, n) -> y.see(n, 0, 0),
            (y, n) -> y.who(n), (y, n) -> y.balk(n, 0), (y, n) -> y.whom(n), (y, n) -> y.why(0, n),
            (y, n) -> y.fairest(0, n), (y, n) -> y.game(0, 1, n), (y, n) -> y.season(0, 0, n),
            (y, n) -> y.season(0, n, 0), (y, n) -> y.town(n), (y, n) -> y.game(0, 0, 0)};
        for (int k = 0; k < calls.length; k++) {
            Checks.due("wrong call " + k + " throws", throwsOne(calls[k], x, 1000000), true);
            Checks.due("wrong call " + k + " throws", throwsOne(calls[k], x, LEAST), true);
        }
    }

    private static boolean throwsOne(Call call, StrangeKnives x, int number) {
        try {
            call.of(x, number);
        } catch (NoSuchElementException | IllegalArgumentException e) {
            return true;
        }
        return false;
    }
}
