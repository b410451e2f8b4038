import java.math.BigInteger;
import java.util.ArrayList;
import java.util.Collections;
import java.util.Comparator;
import java.util.LinkedHashMap;
import java.util.List;
import java.util.Map;
import java.util.TreeSet;
import java.util.stream.Collectors;
import java.util.stream.IntStream;

/** The document told a second time, with lists and maps and nothing kept that can be worked out. */
final class Model {
    private static final int FAR = -10001;

    private record Person(int kind, int v) {
    }

    private record Tome(int pages, int mood, int sort, int by) {
    }

    private static final class World {
        List<Person> people = new ArrayList<>();
        List<Tome> tomes = new ArrayList<>();
        List<String> clubs = new ArrayList<>();
        List<Integer> glad = new ArrayList<>();
        List<Boolean> here = new ArrayList<>();
        List<Boolean> had = new ArrayList<>();
        List<Integer> hands = new ArrayList<>();
        String tape = "";
        int month = 0;

        World copy() {
            World w = new World();
            w.people.addAll(people);
            w.tomes.addAll(tomes);
            w.clubs.addAll(clubs);
            w.glad.addAll(glad);
            w.here.addAll(here);
            w.had.addAll(had);
            w.hands.addAll(hands);
            w.tape = tape;
            w.month = month;
            return w;
        }

        List<Integer> open() {
            return IntStream.range(0, tomes.size()).filter(b -> !had.get(b)).boxed().collect(Collectors.toList());
        }

        List<Integer> present() {
            return IntStream.range(0, people.size()).filter(here::get).boxed().collect(Collectors.toList());
        }
    }

    private World w = new World();
    private World image = null;
    private final List<Integer> bodies = new ArrayList<>();

    int feed(int sign) {
        if (sign < 0 || sign > 127) {
            return -2;
        }
        if (w.tape.length() == 100) {
            return -4;
        }
        w.tape += (char) sign;
        return w.tape.length();
    }

    int club() {
        if (w.clubs.size() == 5) {
            return -4;
        }
        String text = w.tape;
        w.tape = "";
        int fault = Grammar.fault(text);
        if (fault >= 0) {
            return -10 - fault;
        }
        w.clubs.add(text);
        return w.clubs.size() - 1;
    }

    int member(int kind, int v) {
        if (kind < 0 || kind > 6) {
            return -1;
        }
        if (v < 0 || v > 9) {
            return -2;
        }
        if (w.people.size() == 6) {
            return -4;
        }
        w.people.add(new Person(kind, v));
        w.glad.add(0);
        w.here.add(true);
        return w.people.size() - 1;
    }

    int book(int pages, int mood, int sort, int by) {
        if (!person(by)) {
            return -1;
        }
        if (pages < 0 || pages > 99 || mood < 0 || mood > 9 || sort < 0 || sort > 3) {
            return -2;
        }
        if (w.tomes.size() == 6) {
            return -4;
        }
        w.tomes.add(new Tome(pages, mood, sort, by));
        w.had.add(false);
        return w.tomes.size() - 1;
    }

    int of(int m, int what) {
        if (!person(m) || what < 0 || what > 3) {
            return FAR;
        }
        Person p = w.people.get(m);
        return new int[] {p.kind, p.v, w.glad.get(m), bit(w.here.get(m))}[what];
    }

    int at(int b, int what) {
        if (!tome(b) || what < 0 || what > 4) {
            return -1;
        }
        Tome t = w.tomes.get(b);
        return new int[] {t.pages, t.mood, t.sort, t.by, bit(w.had.get(b))}[what];
    }

    int told(int what) {
        if (what < 0 || what > 3) {
            return -1;
        }
        return new int[] {w.month, come(), bits(w.present()), bits(w.open())}[what];
    }

    int had(int b, boolean is) {
        return tome(b) ? bit(w.had.set(b, is)) : -1;
    }

    int like(int m, int b) {
        return person(m) && tome(b) ? liking(m, b) : FAR;
    }

    int order(int m, int what, int k) {
        if (!person(m) || what < 0 || what > 1 || k < 0 || k > 5) {
            return -1;
        }
        List<Integer> row = what == 0 ? ranking(w, m) : w.here.get(m) ? saying(w, m) : List.of();
        return k < row.size() ? row.get(k) : -5;
    }

    int chosen(int way, int what) {
        if (!way(way) || what < 0 || what > 1) {
            return -1;
        }
        return choose(w, way, rows(w, what == 1));
    }

    int alone(int way) {
        if (!way(way)) {
            return -1;
        }
        if (w.open().size() > 5) {
            return -9;
        }
        List<Integer> found = new ArrayList<>();
        for (int m : w.present()) {
            int usual = choose(w, way, rows(w, false));
            for (List<Integer> row : permutations(w.open())) {
                Map<Integer, List<Integer>> rows = rows(w, false);
                rows.put(m, row);
                if (choose(w, way, rows) != usual && !found.contains(m)) {
                    found.add(m);
                }
            }
        }
        return bits(found);
    }

    int gain(int m, int way) {
        if (!person(m) || !way(way)) {
            return -1;
        }
        if (!w.here.get(m)) {
            return -3;
        }
        if (w.open().size() > 5) {
            return -9;
        }
        int usual = choose(w, way, rows(w, false));
        for (List<Integer> row : permutations(w.open())) {
            Map<Integer, List<Integer>> rows = rows(w, false);
            rows.put(m, row);
            int book = choose(w, way, rows);
            if (book >= 0 && liking(m, book) > liking(m, usual)) {
                return book;
            }
        }
        return -5;
    }

    int reads(int m, int b) {
        return person(m) && tome(b) ? reading(m, b) : -1;
    }

    int comes(int m, int b) {
        return person(m) && tome(b) ? bit(coming(w, m, b)) : -1;
    }

    long enough(int b, int k, int part) {
        if (!tome(b) || k < 0 || k > 6 || part < 0 || part > 1) {
            return Long.MIN_VALUE;
        }
        List<Integer> who = w.present();
        BigInteger above = BigInteger.ZERO;
        BigInteger below = BigInteger.TEN.pow(who.size());
        for (int set = 0; set < 1 << who.size(); set++) {
            if (Integer.bitCount(set) >= k) {
                BigInteger odds = BigInteger.ONE;
                for (int i = 0; i < who.size(); i++) {
                    int ten = reading(who.get(i), b);
                    odds = odds.multiply(BigInteger.valueOf((set >> i & 1) == 1 ? ten : 10 - ten));
                }
                above = above.add(odds);
            }
        }
        BigInteger common = above.gcd(below);
        return (part == 0 ? above : below).divide(common).longValue();
    }

    int month(int b) {
        if (!tome(b)) {
            return -1;
        }
        if (w.had.get(b) || w.month >= 99) {
            return -3;
        }
        return pass(w, b);
    }

    int by(int way) {
        if (!way(way)) {
            return -1;
        }
        if (w.open().isEmpty() || w.month >= 99) {
            return -3;
        }
        int book = choose(w, way, rows(w, false));
        pass(w, book);
        return book;
    }

    int run(int n, int way, int what) {
        if (!way(way) || !(what >= 0 && what <= 2 || what >= 10 && person(what - 10))) {
            return FAR;
        }
        if (n < 0 || n > 6) {
            return -10002;
        }
        World then = w.copy();
        int came = go(then, n, way);
        if (what >= 10) {
            return then.glad.get(what - 10);
        }
        TreeSet<Integer> whose = new TreeSet<>();
        for (int b = 0; b < then.tomes.size(); b++) {
            if (then.had.get(b)) {
                whose.add(then.tomes.get(b).by);
            }
        }
        return new int[] {bits(then.present()), came, whose.size()}[what];
    }

    int best() {
        int best = -1;
        long most = Long.MIN_VALUE;
        for (int way = 0; way < 6; way++) {
            World then = w.copy();
            go(then, 6, way);
            if (worth(then) > most) {
                most = worth(then);
                best = way;
            }
        }
        return best;
    }

    int row(int k) {
        if (k < 0 || k > 4) {
            return -1;
        }
        if (w.open().size() > 5) {
            return -9;
        }
        List<Integer> best = List.of();
        long most = Long.MIN_VALUE;
        for (List<Integer> row : permutations(w.open())) {
            World then = w.copy();
            row.forEach(b -> pass(then, b));
            if (worth(then) > most) {
                most = worth(then);
                best = row;
            }
        }
        return k < best.size() ? best.get(k) : -5;
    }

    int hand(int n) {
        if (n < -1 || n > 12) {
            return -2;
        }
        if (n == -1) {
            w.hands.clear();
            return 0;
        }
        if (w.hands.size() == 6) {
            return -4;
        }
        w.hands.add(n);
        return w.hands.size();
    }

    int looked() {
        for (int b : w.open()) {
            if (b < w.hands.size() && hands(b, rows(w, false)) != w.hands.get(b)) {
                return b;
            }
        }
        return -5;
    }

    int act(int m, int act, int x) {
        bodies.clear();
        if (!person(m) || act < 0 || act > 2) {
            return 0;
        }
        return body("wrt".charAt(act), w.people.get(m).kind, m, x);
    }

    int trace(int i) {
        return i >= 0 && i < Math.min(20, bodies.size()) ? bodies.get(i) : -1;
    }

    int as(int m, int k) {
        if (!person(m) || k < 0 || k > 6) {
            return -1;
        }
        for (int kind = w.people.get(m).kind; kind >= 0; kind = above(kind)) {
            if (kind == k) {
                return w.people.get(m).v;
            }
        }
        return -6;
    }

    int image() {
        image = w.copy();
        return w.people.size();
    }

    int undo() {
        if (image == null) {
            return -3;
        }
        w = image.copy();
        return w.people.size();
    }

    int count(int what) {
        if (what < 0 || what > 5) {
            return -1;
        }
        return new int[] {w.people.size(), w.tomes.size(), w.clubs.size(), w.hands.size(), w.tape.length(),
            bodies.size()}[what];
    }

    private boolean person(int m) {
        return m >= 0 && m < w.people.size();
    }

    private boolean tome(int b) {
        return b >= 0 && b < w.tomes.size();
    }

    private static boolean way(int way) {
        return way >= 0 && way < 6;
    }

    private static int bit(boolean is) {
        return is ? 1 : 0;
    }

    private static int bits(List<Integer> numbers) {
        return numbers.stream().mapToInt(n -> 1 << n).sum();
    }

    private int come() {
        int come = 5;
        for (String clause : clauses()) {
            if (clause.startsWith("come ")) {
                come = Integer.parseInt(clause.substring(5));
            }
        }
        return come;
    }

    private String[] clauses() {
        return w.clubs.isEmpty() ? new String[0] : w.clubs.get(w.clubs.size() - 1).split(";");
    }

    private int sum(String word, int m, int b) {
        Tome t = w.tomes.get(b);
        Map<Character, Integer> facts = Map.of('m', m, 'k', w.people.get(m).kind, 'b', b, 'p', t.pages / 10,
            'o', t.mood, 's', t.sort);
        int sum = 0;
        for (String clause : clauses()) {
            String[] parts = clause.split(" ");
            if (parts[0].equals(word) && Grammar.holds(parts[2], facts)) {
                sum += Integer.parseInt(parts[1]);
            }
        }
        return sum;
    }

    private int liking(int m, int b) {
        Person p = w.people.get(m);
        Tome t = w.tomes.get(b);
        int like = 50 + sum("like", m, b) - sum("loath", m, b);
        if ((p.kind == 2 || p.kind == 5) && t.by == m) {
            like += 5 * p.v;
        }
        if (p.kind == 3 || p.kind == 6) {
            like -= t.pages / 2;
        }
        return like;
    }

    private int reading(int m, int b) {
        if (w.tomes.get(b).by == m) {
            return 10;
        }
        int like = liking(m, b);
        int odds = 3 + (like < 0 ? -(-like / 20) : like / 20) + sum("read", m, b);
        if (w.people.get(m).kind == 6) {
            odds = odds < 0 ? -(-odds / 2) : odds / 2;
        }
        return odds < 0 ? 0 : odds > 10 ? 10 : odds;
    }

    private boolean off(World then, int m) {
        Person p = then.people.get(m);
        return p.kind == 6 && then.month % (p.v + 2) == 0;
    }

    private boolean coming(World then, int m, int b) {
        return reading(m, b) >= come() && !off(then, m);
    }

    private List<Integer> ranking(World then, int m) {
        List<Integer> row = then.open();
        row.sort(Comparator.comparingInt((Integer b) -> -liking(m, b)).thenComparingInt(b -> b));
        return row;
    }

    private List<Integer> saying(World then, int m) {
        Person p = then.people.get(m);
        List<Integer> row = ranking(then, m);
        if (row.isEmpty() || off(then, m)) {
            return List.of();
        }
        if (p.kind == 4 && p.v != m && p.v < then.people.size() && then.here.get(p.v)) {
            return ranking(then, p.v);
        }
        if (p.kind == 1 || p.kind == 4) {
            int[] firsts = new int[6];
            then.present().forEach(other -> firsts[ranking(then, other).get(0)]++);
            int most = then.open().stream().max(Comparator.comparingInt((Integer b) -> firsts[b])
                .thenComparingInt(b -> -b)).get();
            if (row.get(0) != most) {
                row.remove((Integer) most);
                row.add(most);
            }
        }
        if (p.kind == 5 && row.remove((Integer) p.v)) {
            row.add(p.v);
        }
        return row;
    }

    /** What all who are HERE say (those who say something), or their ORDERS. */
    private Map<Integer, List<Integer>> rows(World then, boolean trues) {
        Map<Integer, List<Integer>> rows = new LinkedHashMap<>();
        for (int m : then.present()) {
            List<Integer> row = trues ? ranking(then, m) : saying(then, m);
            if (!row.isEmpty()) {
                rows.put(m, row);
            }
        }
        return rows;
    }

    private static int hands(int b, Map<Integer, List<Integer>> rows) {
        return (int) rows.values().stream().filter(row -> row.indexOf(b) < 2).count();
    }

    private static int firsts(int b, Map<Integer, List<Integer>> rows) {
        return (int) rows.values().stream().filter(row -> row.get(0) == b).count();
    }

    private static int points(int b, Map<Integer, List<Integer>> rows) {
        return rows.values().stream().mapToInt(row -> row.size() - 1 - row.indexOf(b)).sum();
    }

    private static int ahead(int a, int b, Map<Integer, List<Integer>> rows) {
        return (int) rows.values().stream().filter(row -> row.indexOf(a) < row.indexOf(b)).count();
    }

    private static int most(List<Integer> books, java.util.function.IntUnaryOperator worth) {
        int best = books.get(0);
        for (int b : books) {
            if (worth.applyAsInt(b) > worth.applyAsInt(best)) {
                best = b;
            }
        }
        return best;
    }

    private int choose(World then, int way, Map<Integer, List<Integer>> rows) {
        List<Integer> open = then.open();
        if (open.isEmpty()) {
            return -5;
        }
        switch (way) {
            case 0:
                return most(open, b -> hands(b, rows));
            case 1:
                return most(open, b -> points(b, rows));
            case 2:
                return most(open, b -> firsts(b, rows));
            case 3:
                int one = most(open, b -> firsts(b, rows));
                List<Integer> rest = new ArrayList<>(open);
                rest.remove((Integer) one);
                if (rest.isEmpty()) {
                    return one;
                }
                List<Integer> two = new ArrayList<>(List.of(one, most(rest, b -> firsts(b, rows))));
                Collections.sort(two);
                return ahead(two.get(1), two.get(0), rows) > ahead(two.get(0), two.get(1), rows)
                    ? two.get(1) : two.get(0);
            case 4:
                for (int a : open) {
                    if (open.stream().allMatch(b -> b == a || ahead(a, b, rows) > ahead(b, a, rows))) {
                        return a;
                    }
                }
                return choose(then, 1, rows);
            default:
                List<Integer> who = then.present();
                if (who.isEmpty()) {
                    return open.get(0);
                }
                int m = who.get(then.month % who.size());
                return rows.getOrDefault(m, ranking(then, m)).get(0);
        }
    }

    private int pass(World then, int b) {
        List<Integer> who = then.present();
        int came = 0;
        for (int m : who) {
            if (coming(then, m, b)) {
                came++;
                then.glad.set(m, then.glad.get(m) + liking(m, b) - 50);
            } else {
                then.glad.set(m, then.glad.get(m) - 10);
            }
        }
        who.forEach(m -> then.here.set(m, then.glad.get(m) >= -50));
        then.had.set(b, true);
        then.month++;
        return came;
    }

    private int go(World then, int n, int way) {
        int came = 0;
        for (int i = 0; i < n && !then.open().isEmpty(); i++) {
            came += pass(then, choose(then, way, rows(then, false)));
        }
        return came;
    }

    private static long worth(World then) {
        return then.present().size() * 1000000L + then.present().stream().mapToInt(then.glad::get).sum();
    }

    private static List<List<Integer>> permutations(List<Integer> of) {
        if (of.isEmpty()) {
            return List.of(List.of());
        }
        List<List<Integer>> all = new ArrayList<>();
        for (Integer first : of) {
            List<Integer> rest = new ArrayList<>(of);
            rest.remove(first);
            for (List<Integer> tail : permutations(rest)) {
                List<Integer> row = new ArrayList<>(List.of(first));
                row.addAll(tail);
                all.add(row);
            }
        }
        return all;
    }

    private static int above(int kind) {
        return new int[] {-1, 0, 0, 0, 1, 2, 3}[kind];
    }

    /** Runs the body that a KIND has for an act, or the next KIND above has. */
    private int body(char act, int kind, int m, int x) {
        int own = w.people.get(m).kind;
        int v = w.people.get(m).v;
        int up = above(kind);
        String which = act + "" + kind;
        Map<String, Integer> numbers = Map.of("w0", 1, "r0", 2, "t0", 3, "w1", 11, "r2", 21, "t3", 31, "t4", 41,
            "w5", 51, "r6", 61);
        if (!numbers.containsKey(which)) {
            return body(act, up, m, x);
        }
        bodies.add(numbers.get(which));
        switch (which) {
            case "w0":
                return x + m;
            case "r0":
                return body('w', own, m, x) - v;
            case "t0":
                return body('r', own, m, x) * 2;
            case "w1":
                return body('w', up, m, x * 3);
            case "r2":
                return -body('r', up, m, x);
            case "t3":
                return body('t', up, m, x) ^ 7;
            case "t4":
                int before = body('t', up, m, x - 1);
                return before + body('w', own, m, 2);
            case "w5":
                return body('w', up, m, x) ^ m;
            default:
                return body('r', up, m, x) + v;
        }
    }
}
