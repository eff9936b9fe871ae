import java.util.Arrays;
import java.util.NoSuchElementException;

/** Bread that is cut by strangers: a town is told by a text, then lived in, asked and undone. */
public final class StrangeKnives {
    public static final int NONE = -1;

    private static final int SPENT = -2;

    private static final int MAX_TEXT = 600;
    private static final int FEED = 20;
    private static final int MAX_PEOPLE = 8;
    private static final int MAX_LOAVES = 6;
    private static final int MAX_EATERS = 6;
    private static final int MAX_METS = 16;
    private static final int MAX_ACTS = 40;
    private static final int MAX_SEEN = 6;
    private static final int MAX_BALKED = 4;
    private static final int MAX_CARRIED = 5;
    private static final int MAX_NESTED = 6;
    private static final int MAX_NOTS = 6;
    private static final int MAX_DIGITS = 4;
    private static final int MAX_STACK = 64;
    private static final int MAX_DAY = 999;
    private static final int MAX_HOURS = 99;
    private static final int MAX_MUCH = 999;
    private static final int MAX_SEASON = 60;
    private static final int HOUSES = 10;
    private static final int DAY_HOURS = 24;

    private static final int CHILD = 1;
    private static final int DEAF = 2;
    private static final int TWIN = 3;

    /** Ahead of every day that can be told. */
    private static final int NEVER = -1000000;

    private static final int REFUSED_TEXT = 0;
    private static final int REFUSED_ACT = 1;
    private static final int REFUSED_CLUE = 2;

    private final Reader reader = new Reader();
    private Town town = new Town();
    private Town spareTown = new Town();
    private int faultPlace = NONE;
    private final Memory memory = new Memory();
    private final Memory imageMemory = new Memory();
    private boolean imageKept;
    private final Carrier carrier = new Carrier();
    private final int[] row = new int[MAX_LOAVES];
    private boolean rowKept;
    private final Circle circle = new Circle();
    private final Portions portions = new Portions();
    private final Days dream = new Days();

    public StrangeKnives() {
        town.clear();
        memory.begin(town);
    }

    // ---- the tape and the town

    public int feed(int a, int b, int c, int d, int e) {
        if (reader.fed > MAX_TEXT - FEED) {
            return NONE;
        }
        reader.append(a);
        reader.append(b);
        reader.append(c);
        reader.append(d);
        reader.append(e);
        return reader.fed;
    }

    public int town(int n) throws IllegalArgumentException {
        if (n < 0 || n > reader.fed) {
            throw new IllegalArgumentException("the tape has not so many bytes");
        }
        int fault = reader.read(n, spareTown);
        reader.fed = 0;
        if (fault != 0) {
            faultPlace = reader.start;
            memory.refused[REFUSED_TEXT]++;
            return fault;
        }
        faultPlace = NONE;
        Town told = spareTown;
        spareTown = town;
        town = told;
        memory.begin(town);
        rowKept = false;
        imageKept = false;
        return 0;
    }

    public int fault() {
        return faultPlace;
    }

    // ---- what is

    public int count(int what) throws NoSuchElementException {
        Days now = memory.story.now;
        switch (what) {
            case 0:
                return town.people;
            case 1:
                return town.loaves.many;
            case 2:
                return town.forgetDays;
            case 3:
                return town.noonHour;
            case 4:
                return now.day;
            case 5:
                return now.hour;
            case 6:
                return town.loaves.many - now.uncut(town.loaves);
            case 7:
                lookAround();
                return circle.couples(town);
            case 8:
                return memory.story.kept;
            case 9:
                return memory.seen;
            case 10:
                return memory.balked;
            case 11:
                return reader.fed;
            case 12:
            case 13:
            case 14:
                return memory.refused[what - 12];
            default:
                throw new NoSuchElementException("no such count");
        }
    }

    public int person(int person, int what) throws NoSuchElementException {
        requirePerson(person);
        switch (what) {
            case 0:
                return town.kind[person];
            case 1:
                return town.house[person];
            case 2:
                return town.hunger[person];
            case 3:
                return town.twin[person];
            case 4:
                return memory.story.now.thanks[person];
            case 5:
                lookAround();
                return circle.known[person];
            default:
                throw new NoSuchElementException("nothing such of a person");
        }
    }

    public int loaf(int loaf, int what) throws NoSuchElementException {
        requireLoaf(loaf);
        Loaves loaves = town.loaves;
        switch (what) {
            case 0:
                return loaves.house[loaf];
            case 1:
                return loaves.size[loaf];
            case 2:
                return loaves.baked[loaf];
            case 3:
                return loaves.fresh[loaf];
            case 4:
                return loaves.eaterBits[loaf];
            case 5:
                return town.sliceCount(loaf);
            case 6:
                return memory.story.now.cutBy[loaf];
            case 7:
                return peopleWith(loaf, 0);
            default:
                throw new NoSuchElementException("nothing such of a loaf");
        }
    }

    public int met(int one, int other) throws NoSuchElementException, IllegalArgumentException {
        requirePerson(one);
        requirePerson(other);
        if (one == other) {
            throw new IllegalArgumentException("both are one");
        }
        Days now = memory.story.now;
        int when = now.metOn[one * MAX_PEOPLE + other];
        return when == NEVER ? NONE : now.day - when;
    }

    public boolean knows(int one, int other) throws NoSuchElementException {
        requirePerson(one);
        requirePerson(other);
        lookAround();
        return one == other || has(circle.known[one], other);
    }

    public int may(int person, int loaf) throws NoSuchElementException {
        requirePerson(person);
        requireLoaf(loaf);
        lookAround();
        return hindrance(person, loaf);
    }

    public int why(int loaf, int answer) throws NoSuchElementException {
        requireLoaf(loaf);
        if (answer < 0 || answer > 6) {
            throw new NoSuchElementException("no such answer");
        }
        return peopleWith(loaf, answer);
    }

    public int slice(int person, int loaf, int i) throws NoSuchElementException {
        requirePerson(person);
        requireLoaf(loaf);
        requireEaterOrNone(loaf, i);
        portions.divide(town, memory.story.now, person, loaf);
        return i == NONE ? portions.crumbs : portions.gets[i];
    }

    // ---- what is done and undone

    public boolean cut(int person, int loaf) throws NoSuchElementException {
        requirePerson(person);
        requireLoaf(loaf);
        lookAround();
        if (hindrance(person, loaf) != 0) {
            memory.refused[REFUSED_ACT]++;
            return false;
        }
        memory.story.act(town, Story.CUT, person, loaf);
        return true;
    }

    public int thank(int person, int other) throws NoSuchElementException {
        requirePerson(person);
        requirePerson(other);
        if (person == other) {
            memory.refused[REFUSED_ACT]++;
            return NONE;
        }
        memory.story.act(town, Story.THANKS, person, other);
        return memory.story.now.thanks[other];
    }

    public int fair(int people) {
        if (Integer.bitCount(people) < 2 || (people & ~town.allPeople()) != 0) {
            memory.refused[REFUSED_ACT]++;
            return NONE;
        }
        memory.story.act(town, Story.FAIR, people, 0);
        return Integer.bitCount(people);
    }

    public int hours(int many) {
        Days now = memory.story.now;
        if (many < 1 || many > MAX_HOURS || now.dayIn(many) > MAX_DAY) {
            memory.refused[REFUSED_ACT]++;
            return NONE;
        }
        memory.story.act(town, Story.HOURS, many, 0);
        return now.hour;
    }

    public int undo() {
        return memory.story.takeBack(town);
    }

    public void image() {
        imageMemory.copyFrom(memory);
        imageKept = true;
    }

    public boolean restore() {
        if (!imageKept) {
            return false;
        }
        memory.copyFrom(imageMemory);
        return true;
    }

    // ---- carrying, rings, fairs, help, doors

    public int noon() {
        Days now = memory.story.now;
        int uncut = now.uncut(town.loaves);
        if (uncut > MAX_CARRIED) {
            return SPENT;
        }
        if (uncut > 0 && now.day > 0) {
            return NONE;
        }
        lookAround();
        if (!carrier.search(town, now, circle)) {
            return NONE;
        }
        System.arraycopy(carrier.bestRow, 0, row, 0, MAX_LOAVES);
        rowKept = true;
        return carrier.bestCost;
    }

    public int carried(int loaf) throws NoSuchElementException {
        requireLoaf(loaf);
        if (!rowKept) {
            throw new NoSuchElementException("no row is kept");
        }
        return row[loaf];
    }

    public int familiar() {
        lookAround();
        int all = town.allPeople();
        int bits = 0;
        for (int p = 0; p < town.people; p++) {
            if ((circle.known[p] | 1 << p) == all) {
                bits |= 1 << p;
            }
        }
        return bits;
    }

    public int ring() {
        lookAround();
        int best = 0;
        int all = town.allPeople();
        for (int set = 1; set <= all; set++) {
            if (Integer.bitCount(set) > Integer.bitCount(best) && circle.allStrangers(town, set)) {
                best = set;
            }
        }
        return best;
    }

    public int safe() {
        lookAround();
        int cuttable = cuttableLoaves();
        int all = town.allPeople();
        for (int many = town.people; many >= 2; many--) {
            for (int set = 1; set <= all; set++) {
                if (Integer.bitCount(set) == many && leavesCuttable(set, cuttable)) {
                    return set;
                }
            }
        }
        return NONE;
    }

    private boolean leavesCuttable(int people, int cuttable) {
        int company = town.withTwins(people);
        for (int l = 0; l < town.loaves.many; l++) {
            if (has(cuttable, l) && !circle.keepsCutter(town, company, l)) {
                return false;
            }
        }
        return true;
    }

    /** Loaves that aren't cut and that somebody can cut; circle shows today's knowing then. */
    private int cuttableLoaves() {
        int bits = 0;
        for (int l = 0; l < town.loaves.many; l++) {
            if (memory.story.now.cutBy[l] == NONE && circle.cutters[l] != 0) {
                bits |= 1 << l;
            }
        }
        return bits;
    }

    /** By Hall's theorem as many loaves stay as the worst set of them outnumbers its cutters. */
    public int help() {
        lookAround();
        int uncut = memory.story.now.uncutBits(town.loaves);
        int left = 0;
        for (int set = 1; set < 1 << town.loaves.many; set++) {
            if ((set & ~uncut) == 0) {
                int lacking = Integer.bitCount(set) - Integer.bitCount(cuttersOfAny(set));
                left = Math.max(left, lacking);
            }
        }
        return left;
    }

    private int cuttersOfAny(int loaves) {
        int bits = 0;
        for (int l = 0; l < town.loaves.many; l++) {
            if (has(loaves, l)) {
                bits |= circle.cutters[l];
            }
        }
        return bits;
    }

    public int doors() {
        lookAround();
        int cuttable = cuttableLoaves();
        int best = (1 << HOUSES) - 1;
        for (int set = 0; set < 1 << HOUSES; set++) {
            if (Integer.bitCount(set) < Integer.bitCount(best) && opensAll(set, cuttable)) {
                best = set;
            }
        }
        return best;
    }

    private boolean opensAll(int houses, int cuttable) {
        int dwellers = town.dwellers(houses);
        for (int l = 0; l < town.loaves.many; l++) {
            if (has(cuttable, l) && (circle.cutters[l] & dwellers) == 0) {
                return false;
            }
        }
        return true;
    }

    // ---- what was seen, who balked

    public int see(int loaf, int i, int much) throws NoSuchElementException {
        requireLoaf(loaf);
        boolean eater = i >= 0 && i < town.loaves.eaterCount[loaf];
        if (memory.seen >= MAX_SEEN || !eater || much < 0 || much > MAX_MUCH) {
            memory.refused[REFUSED_CLUE]++;
            return NONE;
        }
        return memory.addSeen(loaf, i, much);
    }

    public int who(int loaf) throws NoSuchElementException {
        requireLoaf(loaf);
        int bits = 0;
        for (int p = 0; p < town.people; p++) {
            if (!town.eats(p, loaf)) {
                portions.divide(town, memory.story.now, p, loaf);
                if (memory.seenFits(loaf, portions.gets)) {
                    bits |= 1 << p;
                }
            }
        }
        return bits;
    }

    public int balk(int person, int loaf) throws NoSuchElementException {
        requirePerson(person);
        requireLoaf(loaf);
        if (memory.balked >= MAX_BALKED) {
            memory.refused[REFUSED_CLUE]++;
            return NONE;
        }
        return memory.addBalked(person, loaf);
    }

    public int whom(int what) throws NoSuchElementException {
        if (what != 0 && what != 1) {
            throw new NoSuchElementException("nothing such of couples");
        }
        lookAround();
        int many = 0;
        int first = NONE;
        for (int a = 0; a < town.people; a++) {
            for (int b = a + 1; b < town.people; b++) {
                if (!circle.both(a, b) && explainsBalking(a, b)) {
                    first = many == 0 ? 10 * a + b : first;
                    many++;
                }
            }
        }
        return what == 0 ? many : first;
    }

    private boolean explainsBalking(int a, int b) {
        int company = town.withTwins(1 << a | 1 << b);
        for (int k = 0; k < memory.balked; k++) {
            int known = circle.knownAfter(town, memory.balkedPerson[k], company);
            if ((known & town.loaves.eaterBits[memory.balkedLoaf[k]]) == 0) {
                return false;
            }
        }
        return true;
    }

    public void forget() {
        memory.clearClues();
    }

    // ---- the fairest, games, seasons

    public int fairest(int loaf, int i) throws NoSuchElementException {
        requireLoaf(loaf);
        requireEaterOrNone(loaf, i);
        lookAround();
        int cutters = circle.cutters[loaf];
        int best = NONE;
        int bestWorth = 0;
        for (int p = 0; p < town.people; p++) {
            if (has(cutters, p)) {
                portions.divide(town, memory.story.now, p, loaf);
                int worth = i == NONE ? -portions.spread() : portions.gets[i];
                if (best == NONE || worth > bestWorth) {
                    best = p;
                    bestWorth = worth;
                }
            }
        }
        return best;
    }

    public int game(int one, int other, int what)
            throws NoSuchElementException, IllegalArgumentException {
        requirePerson(one);
        requirePerson(other);
        if (what != 0 && what != 1) {
            throw new NoSuchElementException("nothing such of a game");
        }
        if (one == other) {
            throw new IllegalArgumentException("both are one");
        }
        lookAround();
        int many = 0;
        int first = NONE;
        for (int x = 0; x < town.loaves.many; x++) {
            for (int y = 0; y < town.loaves.many; y++) {
                if (isBestChoice(one, x, y) && isBestChoice(other, y, x)) {
                    first = many == 0 ? 10 * x + y : first;
                    many++;
                }
            }
        }
        return what == 0 ? many : first;
    }

    private boolean isBestChoice(int person, int mine, int others) {
        int gain = gain(person, mine, others);
        for (int l = 0; l < town.loaves.many; l++) {
            if (gain(person, l, others) > gain) {
                return false;
            }
        }
        return true;
    }

    private int gain(int person, int mine, int others) {
        return mine != others && has(circle.cutters[mine], person) ? town.loaves.size[mine] : 0;
    }

    public int season(int seed, int n, int what)
            throws NoSuchElementException, IllegalArgumentException {
        if (what < 0 || what > 2) {
            throw new NoSuchElementException("nothing such of a season");
        }
        if (n < 0 || n > MAX_SEASON) {
            throw new IllegalArgumentException("no such number of days");
        }
        dream.copyFrom(memory.story.now);
        int all = 0;
        int fewest = n == 0 ? 0 : MAX_LOAVES;
        int random = seed;
        for (int k = 0; k < n; k++) {
            dream.day++;
            random = meetByChance(random);
            int many = loavesWithCutters();
            all += many;
            fewest = Math.min(fewest, many);
        }
        circle.look(town, dream);
        return what == 0 ? all : what == 1 ? fewest : circle.couples(town);
    }

    private int meetByChance(int seed) {
        if (town.people == 0) {
            return seed;
        }
        int first = nextSeed(seed);
        int second = nextSeed(first);
        int one = drawn(first, town.people);
        int other = drawn(second, town.people);
        if (one != other) {
            dream.gather(town, 1 << one | 1 << other, dream.day);
        }
        return second;
    }

    private static int nextSeed(int seed) {
        return seed * 1103515245 + 12345;
    }

    private static int drawn(int seed, int n) {
        return n <= 0 ? 0 : (seed >> 16 & 0x7fff) % n;
    }

    private int loavesWithCutters() {
        circle.look(town, dream);
        int many = 0;
        for (int l = 0; l < town.loaves.many; l++) {
            if (circle.cutters[l] != 0) {
                many++;
            }
        }
        return many;
    }

    // ---- shared by many calls

    private static boolean has(int bits, int i) {
        return (bits >> i & 1) != 0;
    }

    private void requirePerson(int person) {
        if (person < 0 || person >= town.people) {
            throw new NoSuchElementException("no such person");
        }
    }

    private void requireLoaf(int loaf) {
        if (loaf < 0 || loaf >= town.loaves.many) {
            throw new NoSuchElementException("no such loaf");
        }
    }

    private void requireEaterOrNone(int loaf, int i) {
        if (i < NONE || i >= town.loaves.eaterCount[loaf]) {
            throw new NoSuchElementException("no such eater");
        }
    }

    private void lookAround() {
        circle.look(town, memory.story.now);
    }

    /** What keeps one from cutting, 0 to 6; circle shows today's knowing then. */
    private int hindrance(int person, int loaf) {
        Loaves loaves = town.loaves;
        Days now = memory.story.now;
        if (town.eats(person, loaf)) {
            return 1;
        }
        if ((town.dwellers(1 << town.house[person]) & loaves.eaterBits[loaf]) != 0) {
            return 2;
        }
        if ((circle.known[person] & loaves.eaterBits[loaf]) != 0) {
            return 3;
        }
        if (now.day == 0 && now.hour < loaves.baked[loaf]) {
            return 4;
        }
        if (now.day > 0 || now.hour > loaves.baked[loaf] + loaves.fresh[loaf]) {
            return 5;
        }
        return now.cutBy[loaf] == NONE ? 0 : 6;
    }

    private int peopleWith(int loaf, int answer) {
        lookAround();
        int bits = 0;
        for (int p = 0; p < town.people; p++) {
            if (hindrance(p, loaf) == answer) {
                bits |= 1 << p;
            }
        }
        return bits;
    }

    /** The loaves as the text tells them. */
    private static final class Loaves {
        int many;
        final int[] house = new int[MAX_LOAVES];
        final int[] size = new int[MAX_LOAVES];
        final int[] baked = new int[MAX_LOAVES];
        final int[] fresh = new int[MAX_LOAVES];
        final int[] eaterCount = new int[MAX_LOAVES];
        final int[] eaterBits = new int[MAX_LOAVES];
        final int[] eaters = new int[MAX_LOAVES * MAX_EATERS];

        int eater(int loaf, int i) {
            return eaters[loaf * MAX_EATERS + i];
        }

        void addEater(int loaf, int person) {
            int i = eaterCount[loaf];
            if (i < MAX_EATERS) {
                eaters[loaf * MAX_EATERS + i] = person;
                eaterCount[loaf] = i + 1;
                eaterBits[loaf] |= 1 << person;
            }
        }
    }

    /** All that a text tells; it stays as it is until another text comes. */
    private static final class Town {
        int people;
        int mets;
        int forgetDays;
        int noonHour;
        final int[] kind = new int[MAX_PEOPLE];
        final int[] house = new int[MAX_PEOPLE];
        final int[] hunger = new int[MAX_PEOPLE];
        final int[] twin = new int[MAX_PEOPLE];
        final int[] metOne = new int[MAX_METS];
        final int[] metOther = new int[MAX_METS];
        final int[] metDays = new int[MAX_METS];
        final Loaves loaves = new Loaves();
        final Rule rule = new Rule();

        void clear() {
            people = 0;
            mets = 0;
            forgetDays = 365;
            noonHour = 12;
            loaves.many = 0;
            rule.length = 0;
        }

        void addPerson(int newKind, int newHouse, int newHunger) {
            if (people < MAX_PEOPLE) {
                kind[people] = newKind;
                house[people] = newHouse;
                hunger[people] = newHunger;
                twin[people] = NONE;
                if (newKind == TWIN && people > 0) {
                    twin[people] = people - 1;
                    twin[people - 1] = people;
                }
                people++;
            }
        }

        void addMet(int one, int other, int days) {
            if (mets < MAX_METS) {
                metOne[mets] = one;
                metOther[mets] = other;
                metDays[mets] = days;
                mets++;
            }
        }

        /** Somebody stands just ahead, and he is no twin. */
        boolean takesTwin() {
            return people > 0 && kind[people - 1] != TWIN;
        }

        int allPeople() {
            return (1 << people) - 1;
        }

        int pair(int person) {
            int other = twin[person];
            return 1 << person | (other == NONE ? 0 : 1 << other);
        }

        boolean eats(int person, int loaf) {
            return (pair(person) & loaves.eaterBits[loaf]) != 0;
        }

        int dwellers(int houses) {
            int bits = 0;
            for (int p = 0; p < people; p++) {
                if (has(houses, house[p])) {
                    bits |= 1 << p;
                }
            }
            return bits;
        }

        int withTwins(int some) {
            int bits = 0;
            for (int p = 0; p < people; p++) {
                if (has(some, p)) {
                    bits |= pair(p);
                }
            }
            return bits;
        }

        /** Whom one meets among a company that has each one's twin with him: all but his own pair. */
        int metBy(int person, int company) {
            return has(company, person) ? company & ~pair(person) : 0;
        }

        int sliceCount(int loaf) {
            int bits = loaves.eaterBits[loaf];
            int many = 0;
            for (int p = 0; p < people; p++) {
                int other = twin[p];
                boolean counted = other != NONE && other < p && has(bits, other);
                if (has(bits, p) && !counted) {
                    many++;
                }
            }
            return many;
        }
    }

    /** A rule as steps for a stack: numbers as they are, values and operators below 0. */
    private static final class Rule {
        static final int OR = -1;
        static final int AND = -2;
        static final int NOT = -3;
        static final int LESS = -4;
        static final int LIKE = -5;
        static final int PLUS = -6;
        static final int MINUS = -7;
        static final int TIMES = -8;
        static final int OVER = -9;
        static final int FIRST_VALUE = -10;

        static final int SLICE = 0;
        static final int SLICES = 1;
        static final int SIZE = 2;
        static final int KIND = 3;
        static final int HUNGER = 4;
        static final int THANKED = 5;
        static final int VALUES = 6;

        final int[] steps = new int[MAX_TEXT];
        final int[] stack = new int[MAX_STACK];
        int length;

        void add(int step) {
            if (length < MAX_TEXT) {
                steps[length] = step;
                length++;
            }
        }

        int evaluate(int[] values) {
            int top = 0;
            for (int i = 0; i < length; i++) {
                int step = steps[i];
                if (step >= 0 || step <= FIRST_VALUE) {
                    if (top < MAX_STACK) {
                        stack[top] = step >= 0 ? step : valueOf(values, FIRST_VALUE - step);
                        top++;
                    }
                } else if (step == NOT) {
                    if (top >= 1) {
                        stack[top - 1] = stack[top - 1] == 0 ? 1 : 0;
                    }
                } else if (top >= 2) {
                    top--;
                    stack[top - 1] = joined(step, stack[top - 1], stack[top]);
                }
            }
            return stack[0];
        }

        private static int valueOf(int[] values, int i) {
            return i >= 0 && i < values.length ? values[i] : 0;
        }

        private static int joined(int step, int a, int b) {
            switch (step) {
                case OR:
                    return a != 0 || b != 0 ? 1 : 0;
                case AND:
                    return a != 0 && b != 0 ? 1 : 0;
                case LESS:
                    return a < b ? 1 : 0;
                case LIKE:
                    return a == b ? 1 : 0;
                case PLUS:
                    return a + b;
                case MINUS:
                    return a - b;
                case TIMES:
                    return a * b;
                default:
                    return b == 0 ? 0 : a / b;
            }
        }
    }

    /** The tape, and how it is read: token by token up to the first fault, whose place is start. */
    private static final class Reader {
        static final int END = 0;
        static final int WORD = 1;
        static final int NUMBER = 2;
        static final int SIGN = 3;
        static final int NO_TOKEN = 4;

        static final int LOAF_LINE = 4;
        static final int MET_LINE = 5;
        static final int FORGET_LINE = 6;
        static final int NOON_LINE = 7;
        static final int CUTS_LINE = 8;

        static final int TOO_LONG = -1;
        static final String SIGNS = ";()+-*/<=";

        final byte[] tape = new byte[MAX_TEXT];
        int fed;
        int end;
        int token;
        int start;
        int next;
        int number;
        int fault;
        boolean forgetTold;
        boolean noonTold;
        boolean cutsTold;

        void append(int four) {
            for (int shift = 24; shift >= 0; shift -= 8) {
                if (fed < MAX_TEXT) {
                    tape[fed] = (byte) (four >> shift);
                    fed++;
                }
            }
        }

        int read(int n, Town into) {
            into.clear();
            end = Math.max(0, Math.min(n, fed));
            next = 0;
            fault = 0;
            forgetTold = false;
            noonTold = false;
            cutsTold = false;
            advance();
            for (int i = 0; i <= MAX_TEXT && fault == 0 && token != END; i++) {
                readLine(into);
            }
            return fault;
        }

        /** No token is passed behind a fault, so that start stays its place. */
        private void fail(int code) {
            if (fault == 0) {
                fault = code;
            }
        }

        private void advance() {
            if (fault != 0) {
                return;
            }
            start = blanksEnd(next);
            if (start >= end) {
                token = END;
                return;
            }
            int sign = tape[start];
            if (sign >= 'a' && sign <= 'z') {
                token = WORD;
                next = rowEnd(start, 'a', 'z');
            } else if (sign >= '0' && sign <= '9') {
                token = NUMBER;
                next = rowEnd(start, '0', '9');
                number = numberBetween(start, next);
            } else {
                token = sign > 0 && SIGNS.indexOf((char) sign) >= 0 ? SIGN : NO_TOKEN;
                next = start + 1;
            }
        }

        private int blanksEnd(int from) {
            for (int at = from; at < end; at++) {
                if (tape[at] != ' ' && tape[at] != '\n') {
                    return at;
                }
            }
            return end;
        }

        private int rowEnd(int from, char low, char high) {
            for (int at = from; at < end; at++) {
                if (tape[at] < low || tape[at] > high) {
                    return at;
                }
            }
            return end;
        }

        private int numberBetween(int from, int to) {
            if (to - from > MAX_DIGITS) {
                return TOO_LONG;
            }
            int value = 0;
            for (int at = from; at < to; at++) {
                value = 10 * value + tape[at] - '0';
            }
            return value;
        }

        private boolean isSign(char sign) {
            return token == SIGN && tape[start] == sign;
        }

        private boolean isWord(String word) {
            if (token != WORD || next - start != word.length()) {
                return false;
            }
            for (int i = 0; i < word.length(); i++) {
                if (tape[start + i] != word.charAt(i)) {
                    return false;
                }
            }
            return true;
        }

        // ---- lines

        private void readLine(Town into) {
            int line = lineKind();
            switch (line) {
                case NONE:
                    fail(1);
                    break;
                case LOAF_LINE:
                    readBread(into);
                    break;
                case MET_LINE:
                    readMeeting(into);
                    break;
                case FORGET_LINE:
                    readForgetting(into);
                    break;
                case NOON_LINE:
                    readNoonHour(into);
                    break;
                case CUTS_LINE:
                    readRule(into);
                    break;
                default:
                    readHuman(into, line);
                    break;
            }
            readSign(';');
        }

        /** A kind of people (0 to 3), another line, or NONE. */
        private int lineKind() {
            if (isWord("plain")) {
                return 0;
            }
            if (isWord("child")) {
                return CHILD;
            }
            if (isWord("deaf")) {
                return DEAF;
            }
            if (isWord("twin")) {
                return TWIN;
            }
            if (isWord("loaf")) {
                return LOAF_LINE;
            }
            if (isWord("met")) {
                return MET_LINE;
            }
            if (isWord("forget")) {
                return FORGET_LINE;
            }
            if (isWord("noon")) {
                return NOON_LINE;
            }
            return isWord("cuts") ? CUTS_LINE : NONE;
        }

        private void readHuman(Town into, int kind) {
            if (into.people >= MAX_PEOPLE) {
                fail(2);
            } else if (kind == TWIN && !into.takesTwin()) {
                fail(6);
            }
            advance();
            int house = readNumber(0, HOUSES - 1);
            int hunger = readNumber(0, 9);
            if (fault == 0) {
                into.addPerson(kind, house, hunger);
            }
        }

        private void readBread(Town into) {
            Loaves loaves = into.loaves;
            int loaf = loaves.many;
            if (loaf >= MAX_LOAVES) {
                fail(2);
                return;
            }
            advance();
            loaves.house[loaf] = readNumber(0, HOUSES - 1);
            loaves.size[loaf] = readNumber(1, 999);
            loaves.baked[loaf] = readNumber(0, 23);
            loaves.fresh[loaf] = readNumber(1, 23);
            loaves.eaterCount[loaf] = 0;
            loaves.eaterBits[loaf] = 0;
            loaves.many++;
            for (int i = 0; i <= MAX_EATERS && fault == 0 && (i == 0 || token == NUMBER); i++) {
                if (i == MAX_EATERS) {
                    fail(2);
                }
                int person = readPerson(into, loaves.eaterBits[loaf]);
                if (fault == 0) {
                    loaves.addEater(loaf, person);
                }
            }
        }

        private void readMeeting(Town into) {
            if (into.mets >= MAX_METS) {
                fail(2);
            }
            advance();
            int one = readPerson(into, 0);
            int other = readPerson(into, fault == 0 ? 1 << one : 0);
            int days = readNumber(0, 999);
            if (fault == 0) {
                into.addMet(one, other, days);
            }
        }

        private void readForgetting(Town into) {
            if (forgetTold) {
                fail(5);
            }
            forgetTold = true;
            advance();
            into.forgetDays = readNumber(1, 999);
        }

        private void readNoonHour(Town into) {
            if (noonTold) {
                fail(5);
            }
            noonTold = true;
            advance();
            into.noonHour = readNumber(1, 23);
        }

        private void readRule(Town into) {
            if (cutsTold) {
                fail(5);
                return;
            }
            cutsTold = true;
            advance();
            readEither(into.rule, 0);
        }

        private void readSign(char sign) {
            if (!isSign(sign)) {
                fail(1);
            }
            advance();
        }

        private int readNumber(int low, int high) {
            int value = number;
            if (token != NUMBER) {
                fail(1);
            } else if (value == TOO_LONG || value < low || value > high) {
                fail(2);
            }
            advance();
            return fault == 0 ? value : NONE;
        }

        private int readPerson(Town into, int taken) {
            int value = number;
            if (token != NUMBER) {
                fail(1);
            } else if (value == TOO_LONG) {
                fail(2);
            } else if (value >= into.people) {
                fail(3);
            } else if (has(taken, value)) {
                fail(4);
            }
            advance();
            return fault == 0 ? value : NONE;
        }

        // ---- the rule, each level by its own method

        private void readEither(Rule rule, int depth) {
            if (depth >= MAX_NESTED) {
                fail(token == NUMBER || token == WORD || isSign('(') ? 2 : 1);
                return;
            }
            readBoth(rule, depth);
            for (int i = 0; i < MAX_TEXT && fault == 0 && isWord("or"); i++) {
                advance();
                readBoth(rule, depth);
                rule.add(Rule.OR);
            }
        }

        private void readBoth(Rule rule, int depth) {
            readNegated(rule, depth);
            for (int i = 0; i < MAX_TEXT && fault == 0 && isWord("and"); i++) {
                advance();
                readNegated(rule, depth);
                rule.add(Rule.AND);
            }
        }

        private void readNegated(Rule rule, int depth) {
            int nots = 0;
            for (int i = 0; i < MAX_NOTS && isWord("not"); i++) {
                advance();
                nots++;
            }
            if (isWord("not")) {
                fail(2);
                return;
            }
            readTest(rule, depth);
            for (int i = 0; i < nots; i++) {
                rule.add(Rule.NOT);
            }
        }

        private void readTest(Rule rule, int depth) {
            readSum(rule, depth);
            if (fault == 0 && (isSign('<') || isSign('='))) {
                int step = isSign('<') ? Rule.LESS : Rule.LIKE;
                advance();
                readSum(rule, depth);
                rule.add(step);
            }
        }

        private void readSum(Rule rule, int depth) {
            readProduct(rule, depth);
            for (int i = 0; i < MAX_TEXT && fault == 0 && (isSign('+') || isSign('-')); i++) {
                int step = isSign('+') ? Rule.PLUS : Rule.MINUS;
                advance();
                readProduct(rule, depth);
                rule.add(step);
            }
        }

        private void readProduct(Rule rule, int depth) {
            readPart(rule, depth);
            for (int i = 0; i < MAX_TEXT && fault == 0 && (isSign('*') || isSign('/')); i++) {
                int step = isSign('*') ? Rule.TIMES : Rule.OVER;
                advance();
                readPart(rule, depth);
                rule.add(step);
            }
        }

        private void readPart(Rule rule, int depth) {
            if (isSign('(')) {
                advance();
                readEither(rule, depth + 1);
                readSign(')');
            } else if (token == WORD) {
                readValue(rule);
            } else {
                rule.add(readNumber(0, 9999));
            }
        }

        private void readValue(Rule rule) {
            int value = valueKind();
            if (value == NONE) {
                fail(3);
                return;
            }
            rule.add(Rule.FIRST_VALUE - value);
            advance();
        }

        private int valueKind() {
            if (isWord("slice")) {
                return Rule.SLICE;
            }
            if (isWord("slices")) {
                return Rule.SLICES;
            }
            if (isWord("size")) {
                return Rule.SIZE;
            }
            if (isWord("kind")) {
                return Rule.KIND;
            }
            if (isWord("hunger")) {
                return Rule.HUNGER;
            }
            return isWord("thanked") ? Rule.THANKED : NONE;
        }
    }

    /** What changes as days go by. */
    private static final class Days {
        int day;
        int hour;
        final int[] metOn = new int[MAX_PEOPLE * MAX_PEOPLE];
        final int[] cutBy = new int[MAX_LOAVES];
        final int[] thanks = new int[MAX_PEOPLE];

        void begin(Town town) {
            day = 0;
            hour = 0;
            Arrays.fill(metOn, NEVER);
            Arrays.fill(cutBy, NONE);
            Arrays.fill(thanks, 0);
            for (int i = 0; i < town.mets; i++) {
                gather(town, 1 << town.metOne[i] | 1 << town.metOther[i], -town.metDays[i]);
            }
        }

        void copyFrom(Days other) {
            day = other.day;
            hour = other.hour;
            System.arraycopy(other.metOn, 0, metOn, 0, metOn.length);
            System.arraycopy(other.cutBy, 0, cutBy, 0, cutBy.length);
            System.arraycopy(other.thanks, 0, thanks, 0, thanks.length);
        }

        void gather(Town town, int people, int when) {
            int company = town.withTwins(people);
            for (int p = 0; p < town.people; p++) {
                int others = town.metBy(p, company);
                for (int q = 0; q < town.people; q++) {
                    if (has(others, q)) {
                        int at = p * MAX_PEOPLE + q;
                        metOn[at] = Math.max(metOn[at], when);
                    }
                }
            }
        }

        int dayIn(int hours) {
            return day + (hour + hours) / DAY_HOURS;
        }

        void pass(int hours) {
            day = dayIn(hours);
            hour = (hour + hours) % DAY_HOURS;
        }

        int uncutBits(Loaves loaves) {
            int bits = 0;
            for (int l = 0; l < loaves.many; l++) {
                if (cutBy[l] == NONE) {
                    bits |= 1 << l;
                }
            }
            return bits;
        }

        int uncut(Loaves loaves) {
            return Integer.bitCount(uncutBits(loaves));
        }
    }

    /** The acts that are kept; one is undone by living through those ahead of it again. */
    private static final class Story {
        static final int CUT = 0;
        static final int THANKS = 1;
        static final int FAIR = 2;
        static final int HOURS = 3;

        final Days before = new Days();
        final Days now = new Days();
        final int[] kinds = new int[MAX_ACTS];
        final int[] firsts = new int[MAX_ACTS];
        final int[] seconds = new int[MAX_ACTS];
        int kept;

        void begin(Town town) {
            before.begin(town);
            now.copyFrom(before);
            kept = 0;
        }

        void copyFrom(Story other) {
            before.copyFrom(other.before);
            now.copyFrom(other.now);
            System.arraycopy(other.kinds, 0, kinds, 0, MAX_ACTS);
            System.arraycopy(other.firsts, 0, firsts, 0, MAX_ACTS);
            System.arraycopy(other.seconds, 0, seconds, 0, MAX_ACTS);
            kept = other.kept;
        }

        void act(Town town, int kind, int first, int second) {
            if (kept >= MAX_ACTS) {
                dropOldest(town);
            }
            kinds[kept] = kind;
            firsts[kept] = first;
            seconds[kept] = second;
            perform(town, now, kept);
            kept++;
        }

        int takeBack(Town town) {
            if (kept == 0) {
                return NONE;
            }
            kept--;
            now.copyFrom(before);
            for (int i = 0; i < kept; i++) {
                perform(town, now, i);
            }
            return kept;
        }

        private void dropOldest(Town town) {
            perform(town, before, 0);
            System.arraycopy(kinds, 1, kinds, 0, MAX_ACTS - 1);
            System.arraycopy(firsts, 1, firsts, 0, MAX_ACTS - 1);
            System.arraycopy(seconds, 1, seconds, 0, MAX_ACTS - 1);
            kept = MAX_ACTS - 1;
        }

        private void perform(Town town, Days days, int i) {
            int first = firsts[i];
            int second = seconds[i];
            switch (kinds[i]) {
                case CUT:
                    days.cutBy[second] = first;
                    break;
                case THANKS:
                    days.gather(town, 1 << first | 1 << second, days.day);
                    days.thanks[second]++;
                    break;
                case FAIR:
                    days.gather(town, first, days.day);
                    break;
                default:
                    days.pass(first);
                    break;
            }
        }
    }

    /** All that an image keeps. */
    private static final class Memory {
        final Story story = new Story();
        final int[] refused = new int[3];
        int seen;
        final int[] seenLoaf = new int[MAX_SEEN];
        final int[] seenEater = new int[MAX_SEEN];
        final int[] seenMuch = new int[MAX_SEEN];
        int balked;
        final int[] balkedPerson = new int[MAX_BALKED];
        final int[] balkedLoaf = new int[MAX_BALKED];

        /** What was refused is counted on from town to town. */
        void begin(Town town) {
            story.begin(town);
            clearClues();
        }

        void clearClues() {
            seen = 0;
            balked = 0;
        }

        void copyFrom(Memory other) {
            story.copyFrom(other.story);
            System.arraycopy(other.refused, 0, refused, 0, refused.length);
            seen = other.seen;
            System.arraycopy(other.seenLoaf, 0, seenLoaf, 0, MAX_SEEN);
            System.arraycopy(other.seenEater, 0, seenEater, 0, MAX_SEEN);
            System.arraycopy(other.seenMuch, 0, seenMuch, 0, MAX_SEEN);
            balked = other.balked;
            System.arraycopy(other.balkedPerson, 0, balkedPerson, 0, MAX_BALKED);
            System.arraycopy(other.balkedLoaf, 0, balkedLoaf, 0, MAX_BALKED);
        }

        int addSeen(int loaf, int eater, int much) {
            if (seen < MAX_SEEN) {
                seenLoaf[seen] = loaf;
                seenEater[seen] = eater;
                seenMuch[seen] = much;
                seen++;
            }
            return seen;
        }

        boolean seenFits(int loaf, int[] gets) {
            for (int k = 0; k < seen; k++) {
                if (seenLoaf[k] == loaf && gets[seenEater[k]] != seenMuch[k]) {
                    return false;
                }
            }
            return true;
        }

        int addBalked(int person, int loaf) {
            if (balked < MAX_BALKED) {
                balkedPerson[balked] = person;
                balkedLoaf[balked] = loaf;
                balked++;
            }
            return balked;
        }
    }

    /** Who knows whom on some day. */
    private static final class Circle {
        final int[] known = new int[MAX_PEOPLE];
        /** Those who can cut each loaf, were it not cut. */
        final int[] cutters = new int[MAX_LOAVES];

        void look(Town town, Days days) {
            for (int p = 0; p < town.people; p++) {
                int bits = town.dwellers(1 << town.house[p]) | town.pair(p);
                if (town.kind[p] != DEAF) {
                    bits |= remembered(town, days, p);
                }
                known[p] = bits & ~(1 << p);
            }
            for (int l = 0; l < town.loaves.many; l++) {
                cutters[l] = strangersTo(town, town.loaves.eaterBits[l]);
            }
        }

        /** Twins and those of one house know each other, so that knowing hinders for them too. */
        private int strangersTo(Town town, int eaters) {
            int bits = 0;
            for (int p = 0; p < town.people; p++) {
                if (((known[p] | 1 << p) & eaters) == 0) {
                    bits |= 1 << p;
                }
            }
            return bits;
        }

        private static int remembered(Town town, Days days, int person) {
            int bits = 0;
            for (int q = 0; q < town.people; q++) {
                int when = days.metOn[person * MAX_PEOPLE + q];
                if (when != NEVER && days.day - when <= town.forgetDays) {
                    bits |= 1 << q;
                }
            }
            return bits;
        }

        boolean both(int one, int other) {
            return has(known[one], other) && has(known[other], one);
        }

        int couples(Town town) {
            int many = 0;
            for (int a = 0; a < town.people; a++) {
                for (int b = a + 1; b < town.people; b++) {
                    if (both(a, b)) {
                        many++;
                    }
                }
            }
            return many;
        }

        boolean allStrangers(Town town, int set) {
            for (int p = 0; p < town.people; p++) {
                if (has(set, p) && (known[p] & set) != 0) {
                    return false;
                }
            }
            return true;
        }

        /** Whom one would know, had a company (with its twins) met on this day. */
        int knownAfter(Town town, int person, int company) {
            int heard = town.kind[person] == DEAF ? 0 : town.metBy(person, company);
            return known[person] | heard;
        }

        /** Whether somebody who can cut a loaf still could, had a company met. */
        boolean keepsCutter(Town town, int company, int loaf) {
            int eaters = town.loaves.eaterBits[loaf];
            for (int p = 0; p < town.people; p++) {
                if (has(cutters[loaf], p) && (knownAfter(town, p, company) & eaters) == 0) {
                    return true;
                }
            }
            return false;
        }
    }

    /** What each one gets of a loaf that somebody cuts. */
    private static final class Portions {
        final int[] slices = new int[MAX_EATERS];
        final int[] gets = new int[MAX_EATERS];
        final int[] values = new int[Rule.VALUES];
        int many;
        int crumbs;

        void divide(Town town, Days days, int person, int loaf) {
            many = town.sliceCount(loaf);
            weigh(town, days, person, loaf);
            int sum = 0;
            for (int k = 0; k < many; k++) {
                sum += slices[k];
            }
            int size = town.loaves.size[loaf];
            crumbs = size;
            for (int k = 0; k < many; k++) {
                slices[k] = sum <= 0 ? 0 : size * slices[k] / sum;
                crumbs -= slices[k];
            }
            sortDown();
            handOut(town, loaf);
        }

        private void weigh(Town town, Days days, int person, int loaf) {
            int kind = town.kind[person];
            boolean ruled = town.rule.length > 0 && kind != DEAF;
            values[Rule.SLICES] = many;
            values[Rule.SIZE] = town.loaves.size[loaf];
            values[Rule.KIND] = kind;
            values[Rule.HUNGER] = town.hunger[person];
            values[Rule.THANKED] = days.thanks[person];
            for (int k = 0; k < many; k++) {
                values[Rule.SLICE] = kind == CHILD ? many - 1 - k : k;
                int weight = ruled ? town.rule.evaluate(values) : 1;
                slices[k] = Math.max(1, Math.min(99, weight));
            }
        }

        /** Each one takes the largest that is left, so that only the order of sizes matters. */
        private void sortDown() {
            for (int k = 1; k < many; k++) {
                for (int j = k; j > 0 && slices[j - 1] < slices[j]; j--) {
                    int larger = slices[j];
                    slices[j] = slices[j - 1];
                    slices[j - 1] = larger;
                }
            }
        }

        private void handOut(Town town, int loaf) {
            Loaves loaves = town.loaves;
            int eaters = loaves.eaterCount[loaf];
            int taken = 0;
            for (int i = eaters - 1; i >= 0; i--) {
                int shared = placeBehind(loaves, loaf, i, town.twin[loaves.eater(loaf, i)]);
                if (shared != NONE) {
                    gets[i] = gets[shared];
                } else if (taken < many) {
                    gets[i] = slices[taken];
                    taken++;
                }
            }
        }

        private static int placeBehind(Loaves loaves, int loaf, int i, int person) {
            for (int j = i + 1; j < loaves.eaterCount[loaf]; j++) {
                if (loaves.eater(loaf, j) == person) {
                    return j;
                }
            }
            return NONE;
        }

        int spread() {
            return many < 1 ? 0 : slices[0] - slices[many - 1];
        }
    }

    /** Which loaves to carry to whom, so that all are cut by noon. */
    private static final class Carrier {
        static final int SETS = 1 << MAX_CARRIED;
        /** Far more houses than any row needs. */
        static final int UNFOUND = 1000000;

        final int[] bestRow = new int[MAX_LOAVES];
        int bestCost;
        int people;
        int open;
        final int[] loafOf = new int[MAX_CARRIED];
        final int[] lastHour = new int[MAX_CARRIED];
        final int[] houses = new int[MAX_PEOPLE * MAX_CARRIED];
        final int[] thereAt = new int[MAX_PEOPLE * MAX_CARRIED];
        final boolean[] inTime = new boolean[MAX_PEOPLE * SETS];
        final int[] fewestFrom = new int[MAX_CARRIED + 1];
        final int[] chosen = new int[MAX_CARRIED];
        final int[] setOf = new int[MAX_PEOPLE];

        boolean search(Town town, Days now, Circle circle) {
            people = town.people;
            collectOpen(town, now);
            measure(town, now, circle);
            for (int p = 0; p < people; p++) {
                setOf[p] = 0;
                tryAllSets(p, now.hour, town.noonHour);
            }
            bestCost = UNFOUND;
            if (estimate()) {
                place(0, 0);
            }
            return bestCost != UNFOUND;
        }

        private void collectOpen(Town town, Days now) {
            Loaves loaves = town.loaves;
            open = 0;
            for (int l = 0; l < loaves.many; l++) {
                if (now.cutBy[l] == NONE && open < MAX_CARRIED) {
                    loafOf[open] = l;
                    lastHour[open] = Math.min(town.noonHour, loaves.baked[l] + loaves.fresh[l]);
                    open++;
                }
            }
        }

        private void measure(Town town, Days now, Circle circle) {
            for (int p = 0; p < people; p++) {
                for (int k = 0; k < open; k++) {
                    int l = loafOf[k];
                    int at = p * MAX_CARRIED + k;
                    int way = Math.abs(town.loaves.house[l] - town.house[p]);
                    houses[at] = has(circle.cutters[l], p) ? way : NONE;
                    thereAt[at] = Math.max(now.hour, town.loaves.baked[l]) + way;
                }
            }
        }

        /** What is too much without its least loaf is too much with it. */
        private void tryAllSets(int person, int from, int to) {
            int at = person * SETS;
            inTime[at] = true;
            for (int set = 1; set < 1 << open; set++) {
                int fewer = set & set - 1;
                inTime[at + set] = inTime[at + fewer] && cutsInTime(person, set, from, to);
            }
        }

        /** One loaf an hour, the most urgent first: if any order is in time, this one is. */
        private boolean cutsInTime(int person, int set, int from, int to) {
            int left = set;
            for (int hour = from; hour <= to && left != 0; hour++) {
                int k = mostUrgent(person, left, hour);
                if (k != NONE) {
                    if (lastHour[k] < hour) {
                        return false;
                    }
                    left &= ~(1 << k);
                }
            }
            return left == 0;
        }

        private int mostUrgent(int person, int left, int hour) {
            int best = NONE;
            for (int k = 0; k < open; k++) {
                int at = person * MAX_CARRIED + k;
                boolean there = has(left, k) && houses[at] != NONE && thereAt[at] <= hour;
                if (there && (best == NONE || lastHour[k] < lastHour[best])) {
                    best = k;
                }
            }
            return best;
        }

        /** The fewest houses for the loaves from each on, did they not hinder each other. */
        private boolean estimate() {
            fewestFrom[open] = 0;
            for (int k = open - 1; k >= 0; k--) {
                int fewest = UNFOUND;
                for (int p = 0; p < people; p++) {
                    if (inTime[p * SETS + (1 << k)]) {
                        fewest = Math.min(fewest, houses[p * MAX_CARRIED + k]);
                    }
                }
                if (fewest == UNFOUND) {
                    return false;
                }
                fewestFrom[k] = fewestFrom[k + 1] + fewest;
            }
            return true;
        }

        /** Rows come in order, so that the first of like ones stays. */
        private void place(int k, int cost) {
            if (k >= open) {
                keepBest(cost);
                return;
            }
            for (int p = 0; p < people; p++) {
                int set = setOf[p] | 1 << k;
                if (inTime[p * SETS + set]) {
                    int then = cost + houses[p * MAX_CARRIED + k];
                    if (then + fewestFrom[k + 1] < bestCost) {
                        chosen[k] = p;
                        setOf[p] = set;
                        place(k + 1, then);
                        setOf[p] = set & ~(1 << k);
                    }
                }
            }
        }

        private void keepBest(int cost) {
            bestCost = cost;
            Arrays.fill(bestRow, NONE);
            for (int k = 0; k < open; k++) {
                bestRow[loafOf[k]] = chosen[k];
            }
        }
    }
}
