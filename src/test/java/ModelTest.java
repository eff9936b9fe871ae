import java.util.NoSuchElementException;
import java.util.Random;
import java.util.function.IntSupplier;

/** Random runs of calls, each answered by the class and by the model; the seeds are fixed. */
public final class ModelTest {
    private static final int RUNS = 1500;
    private static final String[] JUNK = {";", "(", ")", "+", "-", "*", "/", "<", "=", "not", "and",
        "or", "slice", "slices", "size", "kind", "hunger", "thanked", "plain", "child", "deaf",
        "twin", "loaf", "met", "forget", "noon", "cuts", "0", "1", "7", "12", "999", "1000", "9999",
        "12345", "x", "%", "\n", "\t", "((", "not not not", "(((((", "((((((1"};

    private final Random random;
    private final int run;
    private final boolean busy;
    private final StrangeKnives x = new StrangeKnives();
    private final Model m = new Model();

    private ModelTest(int run) {
        this.run = run;
        busy = run % 5 == 0;
        random = new Random(run * 7919L + 17);
    }

    public static void main(String[] args) {
        int runs = args.length > 0 ? Integer.parseInt(args[0]) : RUNS;
        for (int run = 1; run <= runs; run++) {
            new ModelTest(run).go();
        }
        Checks.finish();
    }

    /** Busy runs have more acts than are kept, and undo them all at the end. */
    private void go() {
        int calls = busy ? 300 : 40 + random.nextInt(200);
        tell();
        for (int k = 0; k < calls; k++) {
            if (!busy && random.nextInt(60) == 0) {
                tell();
            }
            step();
        }
        for (int k = 0; busy && k < 42; k++) {
            same("undo()", x::undo, m::undo);
            ask();
        }
    }

    private int up(int n) {
        return random.nextInt(n);
    }

    /** Mostly below n, at times just outside. */
    private int about(int n) {
        return up(12) == 0 ? up(2) == 0 ? -1 : n : up(Math.max(1, n));
    }

    private static int code(IntSupplier call) {
        try {
            return call.getAsInt();
        } catch (NoSuchElementException e) {
            return -1000001;
        } catch (IllegalArgumentException e) {
            return -1000002;
        }
    }

    private void same(String call, IntSupplier real, IntSupplier model) {
        Checks.due("run " + run + ": " + call, code(real), code(model));
    }

    // ---- texts

    private void tell() {
        String text = run % 5 == 1 ? marketText() : text();
        if (up(4) == 0) {
            text = spoil(text);
        }
        if (text.length() > 600) {
            text = text.substring(0, 600);
        }
        for (int at = 0; at < text.length(); at += 20) {
            int[] v = new int[5];
            for (int i = 0; i < 20; i++) {
                v[i / 4] = v[i / 4] << 8 | (at + i < text.length() ? text.charAt(at + i) : ' ');
            }
            same("feed", () -> x.feed(v[0], v[1], v[2], v[3], v[4]),
                    () -> m.feed(v[0], v[1], v[2], v[3], v[4]));
        }
        int n = up(30) == 0 ? up(700) - 20 : text.length();
        same("town of " + text, () -> x.town(n), () -> m.town(n));
        same("fault of " + text, x::fault, m::fault);
        for (int what = 0; what <= 15; what++) {
            int w = what;
            same("count(" + w + ")", () -> x.count(w), () -> m.count(w));
        }
        same("noon() of " + text, x::noon, m::noon);
        for (int loaf = 0; loaf < m.count(1); loaf++) {
            int l = loaf;
            same("carried(" + l + ") of " + text, () -> x.carried(l), () -> m.carried(l));
        }
    }

    /** Many strangers and little time, so that carrying is hard but not hopeless. */
    private String marketText() {
        StringBuilder text = new StringBuilder();
        int people = 3 + up(4);
        for (int p = 0; p < people; p++) {
            text.append("plain ").append(p < 2 ? 8 + p : up(5)).append(" 0;");
        }
        int loaves = 2 + up(4);
        for (int l = 0; l < loaves; l++) {
            text.append("loaf ").append(up(5)).append(" 9 ").append(up(4)).append(' ')
                    .append(1 + up(4)).append(' ').append(up(2)).append(';');
        }
        return text.append("noon ").append(2 + up(6)).append(';').toString();
    }

    private String text() {
        StringBuilder text = new StringBuilder();
        int people = up(10) == 0 ? up(10) : 3 + up(6);
        int houses = 1 + up(10);
        boolean twinAhead = true;
        for (int p = 0; p < people; p++) {
            String kind = new String[] {"plain", "child", "deaf", "twin"}[up(4)];
            kind = twinAhead && kind.equals("twin") && up(50) > 0 ? "plain" : kind;
            twinAhead = kind.equals("twin");
            text.append(kind).append(' ').append(up(houses)).append(' ').append(up(10)).append(';');
        }
        if (up(2) == 0) {
            text.append("forget ").append(up(3) == 0 ? 1 + up(3) : 1 + up(999)).append(';');
        }
        if (up(2) == 0) {
            text.append("noon ").append(1 + up(23)).append(';');
        }
        int mets = people < 2 ? 0 : up(3) == 0 ? 0 : up(10);
        for (int k = 0; k < mets; k++) {
            int one = up(people);
            int other = up(people - 1);
            other += other >= one && up(100) > 0 ? 1 : 0;
            int days = up(2) == 0 ? up(10) : up(1000);
            text.append("met ").append(one).append(' ').append(other).append(' ').append(days)
                    .append(';');
        }
        int loaves = people == 0 ? 0 : up(20) == 0 ? 7 : up(7);
        for (int k = 0; k < loaves; k++) {
            text.append(loafLine(people, houses));
        }
        if (up(4) != 0) {
            text.append("cuts ").append(rule(4)).append(';');
        }
        return text.toString();
    }

    private String loafLine(int people, int houses) {
        StringBuilder text = new StringBuilder("loaf ").append(up(houses)).append(' ');
        text.append(up(3) == 0 ? 1 + up(12) : 1 + up(999)).append(' ').append(up(up(2) == 0 ? 4 : 24))
                .append(' ').append(1 + up(23));
        int eaters = up(3) > 0 ? 1 + up(2) : 1 + up(6);
        int used = 0;
        for (int k = 0; k < eaters; k++) {
            int p = up(people);
            if ((used >> p & 1) == 0 || up(200) == 0) {
                text.append(' ').append(p);
                used |= 1 << p;
            }
        }
        return text.append(';').toString();
    }

    private String rule(int depth) {
        switch (depth <= 0 ? up(2) : up(9)) {
            case 0:
                return String.valueOf(up(3) == 0 ? up(10000) : up(9));
            case 1:
                return new String[] {"slice", "slices", "size", "kind", "hunger", "thanked"}[up(6)];
            case 2:
                return "(" + rule(depth - 1) + ")";
            case 3:
                return "(not " + rule(depth - 1) + ")";
            case 4:
                return "(" + rule(depth - 1) + new String[] {"<", "="}[up(2)] + rule(0) + ")";
            case 5:
                return rule(depth - 1) + new String[] {" and ", " or "}[up(2)] + rule(depth - 1);
            default:
                return rule(depth - 1) + new String[] {"+", "-", "*", "/"}[up(4)] + rule(depth - 1);
        }
    }

    private String spoil(String text) {
        StringBuilder spoilt = new StringBuilder(text);
        int times = 1 + up(2);
        for (int k = 0; k < times; k++) {
            int at = up(spoilt.length() + 1);
            int much = up(3) == 0 ? 0 : Math.min(up(5), spoilt.length() - at);
            spoilt.replace(at, at + much, up(4) == 0 ? "" : JUNK[up(JUNK.length)] + " ");
        }
        return up(5) == 0 ? spoilt.substring(0, up(spoilt.length() + 1)) : spoilt.toString();
    }

    // ---- calls

    private void step() {
        if (up(5) < (busy ? 4 : 2)) {
            change();
        } else if (up(2) == 0) {
            ask();
        } else {
            search();
        }
    }

    private void change() {
        int p = about(m.count(0));
        int q = about(m.count(0));
        int l = about(m.count(1));
        int much = up(3) == 0 ? up(1001) - 1 : m.count(1) > 0 && m.count(0) > 0 && l >= 0
                && l < m.count(1) ? m.slice(up(m.count(0)), l, 0) : 3;
        int i = about(2);
        int many = up(4) == 0 ? up(104) - 1 : 1 + up(6);
        int set = up(8) == 0 ? random.nextInt() : up(1 << m.count(0));
        switch (up(12)) {
            case 0:
            case 1:
            case 2:
                same("cut(" + p + ", " + l + ")", () -> x.cut(p, l) ? 1 : 0, () -> m.cut(p, l) ? 1 : 0);
                break;
            case 3:
            case 4:
                same("thank(" + p + ", " + q + ")", () -> x.thank(p, q), () -> m.thank(p, q));
                break;
            case 5:
                same("fair(" + set + ")", () -> x.fair(set), () -> m.fair(set));
                break;
            case 6:
                same("hours(" + many + ")", () -> x.hours(many), () -> m.hours(many));
                break;
            case 7:
                same("undo()", x::undo, m::undo);
                break;
            case 8:
                same("see(" + l + ", " + i + ", " + much + ")", () -> x.see(l, i, much),
                        () -> m.see(l, i, much));
                break;
            case 9:
                same("balk(" + p + ", " + l + ")", () -> x.balk(p, l), () -> m.balk(p, l));
                break;
            default:
                rarelyChange();
                break;
        }
    }

    private void rarelyChange() {
        switch (up(busy ? 60 : 15)) {
            case 0:
                x.forget();
                m.forget();
                break;
            case 1:
                x.image();
                m.image();
                break;
            case 2:
                same("restore()", () -> x.restore() ? 1 : 0, () -> m.restore() ? 1 : 0);
                break;
            case 3:
                for (int k = 0; k < 45 && !busy; k++) {
                    same("undo()", x::undo, m::undo);
                }
                break;
            case 4:
                same("hours(99)", () -> x.hours(99), () -> m.hours(99));
                break;
            default:
                break;
        }
    }

    private void ask() {
        int p = about(m.count(0));
        int q = about(m.count(0));
        int l = about(m.count(1));
        int w = about(8);
        int i = up(6) - 1;
        switch (up(8)) {
            case 0:
                same("count(" + w + ")", () -> x.count(w), () -> m.count(w));
                break;
            case 1:
                same("person(" + p + ", " + w + ")", () -> x.person(p, w), () -> m.person(p, w));
                break;
            case 2:
                same("loaf(" + l + ", " + w + ")", () -> x.loaf(l, w), () -> m.loaf(l, w));
                break;
            case 3:
                same("met(" + p + ", " + q + ")", () -> x.met(p, q), () -> m.met(p, q));
                break;
            case 4:
                same("knows(" + p + ", " + q + ")", () -> x.knows(p, q) ? 1 : 0,
                        () -> m.knows(p, q) ? 1 : 0);
                break;
            case 5:
                same("may(" + p + ", " + l + ")", () -> x.may(p, l), () -> m.may(p, l));
                break;
            case 6:
                same("why(" + l + ", " + w + ")", () -> x.why(l, w), () -> m.why(l, w));
                break;
            default:
                same("slice(" + p + ", " + l + ", " + i + ")", () -> x.slice(p, l, i),
                        () -> m.slice(p, l, i));
                break;
        }
    }

    private void search() {
        int p = about(m.count(0));
        int q = about(m.count(0));
        int l = about(m.count(1));
        int w = about(2);
        int i = up(4) - 1;
        int n = up(10) == 0 ? up(70) - 5 : up(30);
        int seed = random.nextInt();
        switch (up(13)) {
            case 0:
                same("noon()", x::noon, m::noon);
                break;
            case 1:
                same("carried(" + l + ")", () -> x.carried(l), () -> m.carried(l));
                break;
            case 2:
                same("familiar()", x::familiar, m::familiar);
                break;
            case 3:
                same("ring()", x::ring, m::ring);
                break;
            case 4:
                same("safe()", x::safe, m::safe);
                break;
            case 5:
                same("help()", x::help, m::help);
                break;
            case 6:
                same("doors()", x::doors, m::doors);
                break;
            case 7:
                same("who(" + l + ")", () -> x.who(l), () -> m.who(l));
                break;
            case 8:
                same("whom(" + w + ")", () -> x.whom(w), () -> m.whom(w));
                break;
            case 9:
                same("fairest(" + l + ", " + i + ")", () -> x.fairest(l, i), () -> m.fairest(l, i));
                break;
            case 10:
                same("game(" + p + ", " + q + ", " + w + ")", () -> x.game(p, q, w),
                        () -> m.game(p, q, w));
                break;
            case 11:
                same("season(" + seed + ", " + n + ", " + w + ")", () -> x.season(seed, n, w),
                        () -> m.season(seed, n, w));
                break;
            default:
                same("season(" + seed + ", " + n + ", 2)", () -> x.season(seed, n, 2),
                        () -> m.season(seed, n, 2));
                break;
        }
    }
}
