import java.util.ArrayList;
import java.util.Arrays;
import java.util.HashMap;
import java.util.List;
import java.util.Map;
import java.util.NoSuchElementException;

/** The document once more, by trying everything out; ModelTest compares the class with it. */
final class Model {
    /** What changes; meetings are kept as they were, twins are thought of when it is asked. */
    private static final class World {
        int day;
        int hour;
        Map<Integer, Integer> direct = new HashMap<>();
        int[] cutBy = {-1, -1, -1, -1, -1, -1};
        int[] thanks = new int[8];

        World copy() {
            World w = new World();
            w.day = day;
            w.hour = hour;
            w.direct = new HashMap<>(direct);
            w.cutBy = cutBy.clone();
            w.thanks = thanks.clone();
            return w;
        }

        void meet(int a, int b, int when) {
            direct.merge(10 * Math.min(a, b) + Math.max(a, b), when, Math::max);
        }
    }

    private static final class Kept {
        World world;
        List<World> earlier;
        List<int[]> seen;
        List<int[]> balked;
        int[] refused;

        Kept(World world, List<World> earlier, List<int[]> seen, List<int[]> balked, int[] refused) {
            this.world = world.copy();
            this.earlier = new ArrayList<>(earlier);
            this.seen = new ArrayList<>(seen);
            this.balked = new ArrayList<>(balked);
            this.refused = refused.clone();
        }
    }

    private final StringBuilder tape = new StringBuilder();
    private ModelText.Town town = new ModelText.Town();
    private World world = new World();
    private List<World> earlier = new ArrayList<>();
    private List<int[]> seen = new ArrayList<>();
    private List<int[]> balked = new ArrayList<>();
    private int[] refused = new int[3];
    private Kept image;
    private int[] row;
    private int faultPlace = -1;

    int feed(int a, int b, int c, int d, int e) {
        if (tape.length() + 20 > 600) {
            return -1;
        }
        for (int number : new int[] {a, b, c, d, e}) {
            for (int shift = 24; shift >= 0; shift -= 8) {
                tape.append((char) (number >> shift & 255));
            }
        }
        return tape.length();
    }

    int town(int n) {
        if (n < 0 || n > tape.length()) {
            throw new IllegalArgumentException();
        }
        String text = tape.substring(0, n);
        tape.setLength(0);
        try {
            town = ModelText.read(text);
        } catch (ModelText.Fault fault) {
            refused[0]++;
            faultPlace = fault.place;
            return fault.code;
        }
        faultPlace = -1;
        world = new World();
        for (int[] met : town.mets) {
            world.meet(met[0], met[1], -met[2]);
        }
        earlier.clear();
        seen.clear();
        balked.clear();
        row = null;
        image = null;
        return 0;
    }

    int fault() {
        return faultPlace;
    }

    private int people() {
        return town.people.size();
    }

    private int loaves() {
        return town.loaves.size();
    }

    private ModelText.Loaf bread(int loaf) {
        if (loaf < 0 || loaf >= loaves()) {
            throw new NoSuchElementException();
        }
        return town.loaves.get(loaf);
    }

    private ModelText.Person human(int person) {
        if (person < 0 || person >= people()) {
            throw new NoSuchElementException();
        }
        return town.people.get(person);
    }

    private int twin(int p) {
        if (human(p).kind == 3) {
            return p - 1;
        }
        return p + 1 < people() && human(p + 1).kind == 3 ? p + 1 : -1;
    }

    int count(int what) {
        int cut = 0;
        for (int l = 0; l < loaves(); l++) {
            cut += world.cutBy[l] >= 0 ? 1 : 0;
        }
        int[] all = {people(), loaves(), forgetDays(), noonHour(), world.day, world.hour, cut, couples(world),
            earlier.size(), seen.size(), balked.size(), tape.length(),
            refused[0], refused[1], refused[2]};
        if (what < 0 || what >= all.length) {
            throw new NoSuchElementException();
        }
        return all[what];
    }

    private int couples(World w) {
        int many = 0;
        for (int a = 0; a < people(); a++) {
            for (int b = 0; b < a; b++) {
                many += knows(w, a, b) && knows(w, b, a) ? 1 : 0;
            }
        }
        return many;
    }

    int person(int person, int what) {
        human(person);
        int known = 0;
        for (int q = 0; q < people(); q++) {
            known += q != person && knows(world, person, q) ? 1 << q : 0;
        }
        int[] all = {human(person).kind, human(person).house, human(person).hunger, twin(person),
            world.thanks[person], known};
        if (what < 0 || what >= all.length) {
            throw new NoSuchElementException();
        }
        return all[what];
    }

    int loaf(int loaf, int what) {
        ModelText.Loaf bread = bread(loaf);
        int eaters = 0;
        int slices = 0;
        for (int e : bread.eaters) {
            eaters += 1 << e;
            slices += human(e).kind == 3 && bread.eaters.contains(e - 1) ? 0 : 1;
        }
        int[] all = {bread.house, bread.size, bread.baked, bread.fresh, eaters, slices,
            world.cutBy[loaf], why(loaf, 0)};
        if (what < 0 || what >= all.length) {
            throw new NoSuchElementException();
        }
        return all[what];
    }

    private Integer lastMet(World w, int a, int b) {
        if (twin(a) == b) {
            return null;
        }
        Integer last = null;
        for (int x : new int[] {a, twin(a)}) {
            for (int y : new int[] {b, twin(b)}) {
                Integer when = w.direct.get(10 * Math.min(x, y) + Math.max(x, y));
                if (x >= 0 && y >= 0 && when != null && (last == null || when > last)) {
                    last = when;
                }
            }
        }
        return last;
    }

    int met(int one, int other) {
        human(one);
        human(other);
        if (one == other) {
            throw new IllegalArgumentException();
        }
        Integer last = lastMet(world, one, other);
        return last == null ? -1 : world.day - last;
    }

    private boolean knows(World w, int a, int b) {
        if (a == b || human(a).house == human(b).house || twin(a) == b) {
            return true;
        }
        Integer last = lastMet(w, a, b);
        return human(a).kind != 2 && last != null && w.day - last <= forgetDays();
    }

    private int forgetDays() {
        return town.forget == null ? 365 : town.forget;
    }

    private int noonHour() {
        return town.noon == null ? 12 : town.noon;
    }

    boolean knows(int one, int other) {
        human(one);
        human(other);
        return knows(world, one, other);
    }

    /** 1, 2, 3 or 0. */
    private int strangeness(World w, int person, int loaf) {
        int least = 9;
        for (int e : bread(loaf).eaters) {
            if (e == person || e == twin(person)) {
                least = Math.min(least, 1);
            }
            if (human(e).house == human(person).house) {
                least = Math.min(least, 2);
            }
            if (knows(w, person, e)) {
                least = Math.min(least, 3);
            }
        }
        return least == 9 ? 0 : least;
    }

    int may(int person, int loaf) {
        human(person);
        ModelText.Loaf bread = bread(loaf);
        int strange = strangeness(world, person, loaf);
        if (strange != 0) {
            return strange;
        }
        int clock = world.day * 24 + world.hour;
        if (clock < bread.baked) {
            return 4;
        }
        if (clock > Math.min(23, bread.baked + bread.fresh)) {
            return 5;
        }
        return world.cutBy[loaf] >= 0 ? 6 : 0;
    }

    int why(int loaf, int answer) {
        bread(loaf);
        if (answer < 0 || answer > 6) {
            throw new NoSuchElementException();
        }
        int bits = 0;
        for (int p = 0; p < people(); p++) {
            bits += may(p, loaf) == answer ? 1 << p : 0;
        }
        return bits;
    }

    private List<Integer> slicesBy(int person, int loaf) {
        int n = loaf(loaf, 5);
        List<Integer> weights = new ArrayList<>();
        int sum = 0;
        for (int k = 0; k < n; k++) {
            Map<String, Integer> values = Map.of("slice", k, "slices", n, "size", bread(loaf).size,
                    "kind", human(person).kind, "hunger", human(person).hunger,
                    "thanked", world.thanks[person]);
            int weight = town.cuts == null || human(person).kind == 2 ? 1 : town.cuts.at(values);
            weight = weight < 1 ? 1 : weight > 99 ? 99 : weight;
            weights.add(human(person).kind == 1 ? 0 : weights.size(), weight);
            sum += weight;
        }
        List<Integer> slices = new ArrayList<>();
        for (int weight : weights) {
            slices.add(bread(loaf).size * weight / sum);
        }
        return slices;
    }

    /** By eaters as they come, crumbs behind them. */
    private int[] portions(int person, int loaf) {
        List<Integer> eaters = bread(loaf).eaters;
        List<Integer> slices = slicesBy(person, loaf);
        int[] got = new int[eaters.size() + 1];
        Arrays.fill(got, -1);
        got[eaters.size()] = bread(loaf).size - slices.stream().mapToInt(s -> s).sum();
        for (int i = eaters.size() - 1; i >= 0; i--) {
            if (got[i] < 0) {
                int most = 0;
                for (int k = 1; k < slices.size(); k++) {
                    most = slices.get(k) > slices.get(most) ? k : most;
                }
                got[i] = slices.remove(most);
                int other = eaters.indexOf(twin(eaters.get(i)));
                if (other >= 0) {
                    got[other] = got[i];
                }
            }
        }
        return got;
    }

    int slice(int person, int loaf, int i) {
        human(person);
        int n = bread(loaf).eaters.size();
        if (i < -1 || i >= n) {
            throw new NoSuchElementException();
        }
        return portions(person, loaf)[i < 0 ? n : i];
    }

    private void keep() {
        earlier.add(world.copy());
        if (earlier.size() > 40) {
            earlier.remove(0);
        }
    }

    boolean cut(int person, int loaf) {
        if (may(person, loaf) != 0) {
            refused[1]++;
            return false;
        }
        keep();
        world.cutBy[loaf] = person;
        return true;
    }

    int thank(int person, int other) {
        human(person);
        human(other);
        if (person == other) {
            refused[1]++;
            return -1;
        }
        keep();
        world.meet(person, other, world.day);
        return ++world.thanks[other];
    }

    private void hold(World w, int set) {
        for (int a = 0; a < 8; a++) {
            for (int b = 0; b < a; b++) {
                if ((set >> a & 1) == 1 && (set >> b & 1) == 1) {
                    w.meet(a, b, w.day);
                }
            }
        }
    }

    int fair(int set) {
        if (set < 0 || set >= 1 << people() || Integer.bitCount(set) < 2) {
            refused[1]++;
            return -1;
        }
        keep();
        hold(world, set);
        return Integer.bitCount(set);
    }

    int hours(int many) {
        long clock = world.day * 24L + world.hour + many;
        if (many < 1 || many > 99 || clock >= 24000) {
            refused[1]++;
            return -1;
        }
        keep();
        world.day = (int) (clock / 24);
        world.hour = (int) (clock % 24);
        return world.hour;
    }

    int undo() {
        if (earlier.isEmpty()) {
            return -1;
        }
        world = earlier.remove(earlier.size() - 1).copy();
        return earlier.size();
    }

    private boolean can(World w, int person, int loaf) {
        return strangeness(w, person, loaf) == 0;
    }

    private boolean open(int loaf) {
        return world.cutBy[loaf] < 0;
    }

    private int bestHouses;
    private int[] bestRow;

    int noon() {
        int[] who = new int[loaves()];
        int many = 0;
        for (int l = 0; l < loaves(); l++) {
            many += open(l) ? 1 : 0;
        }
        if (many > 5) {
            return -2;
        }
        bestHouses = Integer.MAX_VALUE;
        bestRow = null;
        rows(0, who, 0);
        if (bestRow == null || many > 0 && world.day > 0) {
            return -1;
        }
        row = bestRow;
        return bestHouses;
    }

    private void rows(int l, int[] who, int houses) {
        if (l == loaves()) {
            if (houses < bestHouses && schedules(0, who, new boolean[8][24])) {
                bestHouses = houses;
                bestRow = who.clone();
            }
            return;
        }
        if (!open(l)) {
            who[l] = -1;
            rows(l + 1, who, houses);
            return;
        }
        for (int p = 0; p < people(); p++) {
            if (can(world, p, l)) {
                who[l] = p;
                rows(l + 1, who, houses + way(p, l));
            }
        }
    }

    private int way(int p, int l) {
        return Math.abs(human(p).house - bread(l).house);
    }

    /** Some hour for each loaf, no hour of one person twice: all are tried. */
    private boolean schedules(int l, int[] who, boolean[][] busy) {
        if (l == loaves()) {
            return true;
        }
        if (who[l] < 0) {
            return schedules(l + 1, who, busy);
        }
        int from = Math.max(world.hour, bread(l).baked) + way(who[l], l);
        int to = Math.min(noonHour(), bread(l).baked + bread(l).fresh);
        for (int h = from; h <= to; h++) {
            if (!busy[who[l]][h]) {
                busy[who[l]][h] = true;
                boolean fits = schedules(l + 1, who, busy);
                busy[who[l]][h] = false;
                if (fits) {
                    return true;
                }
            }
        }
        return false;
    }

    int carried(int loaf) {
        bread(loaf);
        if (row == null) {
            throw new NoSuchElementException();
        }
        return row[loaf];
    }

    int familiar() {
        int bits = 0;
        for (int p = 0; p < people(); p++) {
            boolean all = true;
            for (int q = 0; q < people(); q++) {
                all &= knows(world, p, q);
            }
            bits += all ? 1 << p : 0;
        }
        return bits;
    }

    int ring() {
        int best = 0;
        for (int set = (1 << people()) - 1; set > 0; set--) {
            boolean strange = true;
            for (int a = 0; a < people(); a++) {
                for (int b = 0; b < people(); b++) {
                    boolean both = a != b && (set >> a & 1) == 1 && (set >> b & 1) == 1;
                    strange &= !both || !knows(world, a, b);
                }
            }
            best = strange && Integer.bitCount(set) >= Integer.bitCount(best) ? set : best;
        }
        return best;
    }

    private boolean anyCan(World w, int l) {
        for (int p = 0; p < people(); p++) {
            if (can(w, p, l)) {
                return true;
            }
        }
        return false;
    }

    int safe() {
        int best = -1;
        for (int set = (1 << people()) - 1; set > 0; set--) {
            if (Integer.bitCount(set) < 2) {
                continue;
            }
            World then = world.copy();
            hold(then, set);
            boolean fine = true;
            for (int l = 0; l < loaves(); l++) {
                fine &= !open(l) || !anyCan(world, l) || anyCan(then, l);
            }
            if (fine && (best < 0 || Integer.bitCount(set) >= Integer.bitCount(best))) {
                best = set;
            }
        }
        return best;
    }

    int help() {
        return left(0, 0);
    }

    private int left(int l, int used) {
        if (l == loaves()) {
            return 0;
        }
        if (!open(l)) {
            return left(l + 1, used);
        }
        int least = 1 + left(l + 1, used);
        for (int p = 0; p < people(); p++) {
            if ((used >> p & 1) == 0 && can(world, p, l)) {
                least = Math.min(least, left(l + 1, used | 1 << p));
            }
        }
        return least;
    }

    int doors() {
        int best = 1023;
        for (int set = 1023; set >= 0; set--) {
            boolean fine = true;
            for (int l = 0; l < loaves(); l++) {
                boolean inThese = false;
                for (int p = 0; p < people(); p++) {
                    inThese |= (set >> human(p).house & 1) == 1 && can(world, p, l);
                }
                fine &= !open(l) || !anyCan(world, l) || inThese;
            }
            best = fine && Integer.bitCount(set) <= Integer.bitCount(best) ? set : best;
        }
        return best;
    }

    int see(int loaf, int i, int much) {
        int n = bread(loaf).eaters.size();
        if (seen.size() == 6 || i < 0 || i >= n || much < 0 || much > 999) {
            refused[2]++;
            return -1;
        }
        seen.add(new int[] {loaf, i, much});
        return seen.size();
    }

    int who(int loaf) {
        bread(loaf);
        int bits = 0;
        for (int p = 0; p < people(); p++) {
            boolean fits = strangeness(world, p, loaf) != 1;
            for (int[] s : seen) {
                fits &= s[0] != loaf || portions(p, loaf)[s[1]] == s[2];
            }
            bits += fits ? 1 << p : 0;
        }
        return bits;
    }

    int balk(int person, int loaf) {
        human(person);
        bread(loaf);
        if (balked.size() == 4) {
            refused[2]++;
            return -1;
        }
        balked.add(new int[] {person, loaf});
        return balked.size();
    }

    int whom(int what) {
        List<Integer> found = new ArrayList<>();
        for (int a = 0; a < people(); a++) {
            for (int b = a + 1; b < people(); b++) {
                World then = world.copy();
                then.meet(a, b, then.day);
                boolean fits = !knows(world, a, b) || !knows(world, b, a);
                for (int[] s : balked) {
                    boolean some = false;
                    for (int e : bread(s[1]).eaters) {
                        some |= e != s[0] && knows(then, s[0], e);
                    }
                    fits &= some;
                }
                if (fits) {
                    found.add(10 * a + b);
                }
            }
        }
        return countOrFirst(found, what);
    }

    private static int countOrFirst(List<Integer> found, int what) {
        if (what != 0 && what != 1) {
            throw new NoSuchElementException();
        }
        return what == 0 ? found.size() : found.isEmpty() ? -1 : found.get(0);
    }

    int fairest(int loaf, int i) {
        int n = bread(loaf).eaters.size();
        if (i < -1 || i >= n) {
            throw new NoSuchElementException();
        }
        int best = -1;
        int bestWorth = 0;
        for (int p = people() - 1; p >= 0; p--) {
            if (can(world, p, loaf)) {
                int[] got = Arrays.copyOf(portions(p, loaf), n);
                Arrays.sort(got);
                int worth = i < 0 ? got[0] - got[n - 1] : portions(p, loaf)[i];
                if (best < 0 || worth >= bestWorth) {
                    best = p;
                    bestWorth = worth;
                }
            }
        }
        return best;
    }

    void forget() {
        seen.clear();
        balked.clear();
    }

    int game(int one, int other, int what) {
        human(one);
        human(other);
        if (what != 0 && what != 1) {
            throw new NoSuchElementException();
        }
        if (one == other) {
            throw new IllegalArgumentException();
        }
        List<Integer> found = new ArrayList<>();
        for (int x = 0; x < loaves(); x++) {
            for (int y = 0; y < loaves(); y++) {
                boolean rests = true;
                for (int z = 0; z < loaves(); z++) {
                    rests &= gain(one, z, y) <= gain(one, x, y);
                    rests &= gain(other, z, x) <= gain(other, y, x);
                }
                if (rests) {
                    found.add(10 * x + y);
                }
            }
        }
        return countOrFirst(found, what);
    }

    private int gain(int p, int mine, int others) {
        return mine == others || !can(world, p, mine) ? 0 : bread(mine).size;
    }

    int season(int seed, int n, int what) {
        if (what < 0 || what > 2) {
            throw new NoSuchElementException();
        }
        if (n < 0 || n > 60) {
            throw new IllegalArgumentException();
        }
        World w = world.copy();
        long s = seed;
        int all = 0;
        int fewest = 99;
        for (int k = 0; k < n; k++) {
            w.day++;
            if (people() > 0) {
                s = (s * 1103515245L + 12345L) & 0xffffffffL;
                int a = (int) ((s >> 16) % 32768 % people());
                s = (s * 1103515245L + 12345L) & 0xffffffffL;
                int b = (int) ((s >> 16) % 32768 % people());
                if (a != b) {
                    w.meet(a, b, w.day);
                }
            }
            int many = 0;
            for (int l = 0; l < loaves(); l++) {
                many += anyCan(w, l) ? 1 : 0;
            }
            all += many;
            fewest = Math.min(fewest, many);
        }
        return what == 0 ? all : what == 1 ? n == 0 ? 0 : fewest : couples(w);
    }

    void image() {
        image = new Kept(world, earlier, seen, balked, refused);
    }

    boolean restore() {
        if (image == null) {
            return false;
        }
        Kept again = new Kept(image.world, image.earlier, image.seen, image.balked, image.refused);
        world = again.world;
        earlier = again.earlier;
        seen = again.seen;
        balked = again.balked;
        refused = again.refused;
        return true;
    }
}
