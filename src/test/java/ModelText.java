import java.util.ArrayList;
import java.util.LinkedHashSet;
import java.util.List;
import java.util.Map;
import java.util.Set;

/** A second reader of towns, written for plainness: all tokens first, faults as exceptions. */
final class ModelText {
    static final class Fault extends RuntimeException {
        private static final long serialVersionUID = 1;
        final int code;
        final int place;

        Fault(int code, int place) {
            this.code = code;
            this.place = place;
        }
    }

    interface Expr {
        int at(Map<String, Integer> values);
    }

    static final class Person {
        int kind;
        int house;
        int hunger;
    }

    static final class Loaf {
        int house;
        int size;
        int baked;
        int fresh;
        List<Integer> eaters = new ArrayList<>();
    }

    static final class Town {
        List<Person> people = new ArrayList<>();
        List<Loaf> loaves = new ArrayList<>();
        List<int[]> mets = new ArrayList<>();
        Integer forget;
        Integer noon;
        Expr cuts;
    }

    private static final class Token {
        final String text;
        final int place;

        Token(String text, int place) {
            this.text = text;
            this.place = place;
        }

        boolean word() {
            return text.matches("[a-z]+");
        }

        boolean number() {
            return text.matches("[0-9]+");
        }
    }

    private static final Set<String> VALUES =
            Set.of("slice", "slices", "size", "kind", "hunger", "thanked");

    private final List<Token> tokens = new ArrayList<>();
    private int at = 0;
    private final Town town = new Town();

    static Town read(String text) {
        ModelText reader = new ModelText(text);
        while (!reader.look().text.isEmpty()) {
            reader.line();
        }
        return reader.town;
    }

    private ModelText(String text) {
        int i = 0;
        while (i < text.length()) {
            char c = text.charAt(i);
            if (c == ' ' || c == '\n') {
                i++;
                continue;
            }
            int j = i + 1;
            String row = c >= 'a' && c <= 'z' ? "[a-z]" : c >= '0' && c <= '9' ? "[0-9]" : "";
            while (!row.isEmpty() && j < text.length() && text.substring(j, j + 1).matches(row)) {
                j++;
            }
            tokens.add(new Token(text.substring(i, j), i));
            i = j;
        }
        tokens.add(new Token("", text.length()));
    }

    private Token look() {
        return tokens.get(at);
    }

    private boolean takes(String text) {
        if (look().text.equals(text)) {
            at++;
            return true;
        }
        return false;
    }

    private void must(String text) {
        if (!takes(text)) {
            throw new Fault(1, look().place);
        }
    }

    private int number(int low, int high) {
        Token token = look();
        if (!token.number()) {
            throw new Fault(1, token.place);
        }
        if (token.text.length() > 4) {
            throw new Fault(2, token.place);
        }
        int value = Integer.parseInt(token.text);
        if (value < low || value > high) {
            throw new Fault(2, token.place);
        }
        at++;
        return value;
    }

    private int somebody(Set<Integer> already) {
        Token token = look();
        int value = number(0, 9999);
        if (value >= town.people.size()) {
            throw new Fault(3, token.place);
        }
        if (already.contains(value)) {
            throw new Fault(4, token.place);
        }
        return value;
    }

    private void line() {
        Token first = look();
        at++;
        int kind = List.of("plain", "child", "deaf", "twin").indexOf(first.text);
        if (kind >= 0) {
            human(first, kind);
        } else if (first.text.equals("loaf")) {
            bread(first);
        } else if (first.text.equals("met")) {
            if (town.mets.size() == 16) {
                throw new Fault(2, first.place);
            }
            int one = somebody(Set.of());
            int other = somebody(Set.of(one));
            town.mets.add(new int[] {one, other, number(0, 999)});
        } else if (first.text.equals("forget")) {
            onlyOnce(first, town.forget);
            town.forget = number(1, 999);
        } else if (first.text.equals("noon")) {
            onlyOnce(first, town.noon);
            town.noon = number(1, 23);
        } else if (first.text.equals("cuts")) {
            onlyOnce(first, town.cuts);
            town.cuts = expr(0);
        } else {
            throw new Fault(1, first.place);
        }
        must(";");
    }

    private void onlyOnce(Token first, Object told) {
        if (told != null) {
            throw new Fault(5, first.place);
        }
    }

    private void human(Token first, int kind) {
        int n = town.people.size();
        if (n == 8) {
            throw new Fault(2, first.place);
        }
        if (kind == 3 && (n == 0 || town.people.get(n - 1).kind == 3)) {
            throw new Fault(6, first.place);
        }
        Person person = new Person();
        person.kind = kind;
        person.house = number(0, 9);
        person.hunger = number(0, 9);
        town.people.add(person);
    }

    private void bread(Token first) {
        if (town.loaves.size() == 6) {
            throw new Fault(2, first.place);
        }
        Loaf loaf = new Loaf();
        loaf.house = number(0, 9);
        loaf.size = number(1, 999);
        loaf.baked = number(0, 23);
        loaf.fresh = number(1, 23);
        Set<Integer> eaters = new LinkedHashSet<>();
        do {
            if (look().number() && eaters.size() == 6) {
                throw new Fault(2, look().place);
            }
            eaters.add(somebody(eaters));
        } while (look().number());
        loaf.eaters.addAll(eaters);
        town.loaves.add(loaf);
    }

    private Expr expr(int within) {
        Token token = look();
        if (within == 6 && (token.word() || token.number() || token.text.equals("("))) {
            throw new Fault(2, token.place);
        }
        Expr left = and(within);
        while (takes("or")) {
            Expr a = left;
            Expr b = and(within);
            left = v -> truth(a.at(v) != 0 || b.at(v) != 0);
        }
        return left;
    }

    private Expr and(int within) {
        Expr left = not(within, 1);
        while (takes("and")) {
            Expr a = left;
            Expr b = not(within, 1);
            left = v -> truth(a.at(v) != 0 && b.at(v) != 0);
        }
        return left;
    }

    private Expr not(int within, int nth) {
        if (look().text.equals("not")) {
            if (nth == 7) {
                throw new Fault(2, look().place);
            }
            at++;
            Expr of = not(within, nth + 1);
            return v -> truth(of.at(v) == 0);
        }
        Expr a = sum(within);
        if (takes("<")) {
            Expr b = sum(within);
            return v -> truth(a.at(v) < b.at(v));
        }
        if (takes("=")) {
            Expr b = sum(within);
            return v -> truth(a.at(v) == b.at(v));
        }
        return a;
    }

    private Expr sum(int within) {
        Expr left = product(within);
        while (look().text.equals("+") || look().text.equals("-")) {
            boolean plus = look().text.equals("+");
            at++;
            Expr a = left;
            Expr b = product(within);
            left = plus ? v -> a.at(v) + b.at(v) : v -> a.at(v) - b.at(v);
        }
        return left;
    }

    private Expr product(int within) {
        Expr left = part(within);
        while (look().text.equals("*") || look().text.equals("/")) {
            boolean times = look().text.equals("*");
            at++;
            Expr a = left;
            Expr b = part(within);
            left = times ? v -> a.at(v) * b.at(v) : v -> b.at(v) == 0 ? 0 : a.at(v) / b.at(v);
        }
        return left;
    }

    private Expr part(int within) {
        Token token = look();
        if (takes("(")) {
            Expr inner = expr(within + 1);
            must(")");
            return inner;
        }
        if (token.word()) {
            if (!VALUES.contains(token.text)) {
                throw new Fault(3, token.place);
            }
            at++;
            return v -> v.get(token.text);
        }
        int value = number(0, 9999);
        return v -> value;
    }

    private static int truth(boolean holds) {
        return holds ? 1 : 0;
    }
}
