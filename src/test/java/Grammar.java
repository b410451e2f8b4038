import java.util.ArrayList;
import java.util.LinkedHashSet;
import java.util.List;
import java.util.Set;

/**
 * What a CLUB's text may be, told as rules that a set of open ways is followed through, byte by
 * byte: a way is what may come yet, how many ! and ( are open, how many clauses have begun.
 * The letters of a way: C all clauses, W one clause, E T F the document's, V a test, N a number,
 * D a digit that is not 0, G any digit, - the end of an open ! or ( ; any other one stands for itself.
 */
final class Grammar {
    private record Way(String yet, int open, int clauses) {
    }

    private static final String RULES = "CWETFVNDG-";

    /** -1: the text is a CLUB; else the FAULT. */
    static int fault(String text) {
        Set<Way> ways = spread(List.of(new Way("C", 0, 0)));
        for (int i = 0; i < text.length(); i++) {
            ways = spread(step(ways, text.charAt(i)));
            if (ways.isEmpty()) {
                return i;
            }
        }
        return ways.stream().anyMatch(way -> way.yet.isEmpty()) ? -1 : text.length();
    }

    /** The signs with which a CLUB can go on behind a text, which is a CLUB's beginning. */
    static Set<Character> next(String text) {
        Set<Way> ways = spread(List.of(new Way("C", 0, 0)));
        for (int i = 0; i < text.length(); i++) {
            ways = spread(step(ways, text.charAt(i)));
        }
        Set<Character> signs = new LinkedHashSet<>();
        for (Way way : ways) {
            if (!way.yet.isEmpty()) {
                signs.add(sign(way.yet.charAt(0)));
            }
        }
        return signs;
    }

    private static List<Way> step(Set<Way> ways, char sign) {
        List<Way> next = new ArrayList<>();
        for (Way way : ways) {
            if (!way.yet.isEmpty() && sign(way.yet.charAt(0)) == sign) {
                next.add(new Way(way.yet.substring(1), way.open, way.clauses));
            }
        }
        return next;
    }

    /** The rules' own letters are large; ! and ( that open something stand as ? and [ . */
    private static char sign(char c) {
        return c == '?' ? '!' : c == '[' ? '(' : c;
    }

    private static Set<Way> spread(List<Way> from) {
        Set<Way> all = new LinkedHashSet<>();
        List<Way> todo = new ArrayList<>(from);
        while (!todo.isEmpty()) {
            Way way = todo.remove(todo.size() - 1);
            if (way.yet.isEmpty() || RULES.indexOf(way.yet.charAt(0)) < 0) {
                all.add(way);
                continue;
            }
            String rest = way.yet.substring(1);
            switch (way.yet.charAt(0)) {
                case 'C':
                    if (way.clauses < 10) {
                        todo.add(new Way("W" + rest, way.open, way.clauses + 1));
                        if (way.clauses < 9) {
                            todo.add(new Way("W;C" + rest, way.open, way.clauses + 1));
                        }
                    }
                    break;
                case 'W':
                    put(todo, way, rest, "like N E", "loath N E", "read N E", "come N");
                    break;
                case 'E':
                    put(todo, way, rest, "T", "T|E");
                    break;
                case 'T':
                    put(todo, way, rest, "F", "F&T");
                    break;
                case 'F':
                    put(todo, way, rest, "V");
                    if (way.open < 5) {
                        todo.add(new Way("?F-" + rest, way.open + 1, way.clauses));
                        todo.add(new Way("[E)-" + rest, way.open + 1, way.clauses));
                    }
                    break;
                case 'V':
                    for (char which : "mkbpos".toCharArray()) {
                        put(todo, way, rest, which + "<N", which + "=N", which + ">N");
                    }
                    break;
                case 'N':
                    put(todo, way, rest, "0", "D", "DG");
                    break;
                case 'D':
                    put(todo, way, rest, "1", "2", "3", "4", "5", "6", "7", "8", "9");
                    break;
                case 'G':
                    put(todo, way, rest, "D", "0");
                    break;
                default:
                    todo.add(new Way(rest, way.open - 1, way.clauses));
                    break;
            }
        }
        return all;
    }

    private static void put(List<Way> todo, Way way, String rest, String... heads) {
        for (String head : heads) {
            todo.add(new Way(head + rest, way.open, way.clauses));
        }
    }

    /** Whether an E holds, cut at its outermost | and then & . */
    static boolean holds(String e, java.util.Map<Character, Integer> facts) {
        for (char join : new char[] {'|', '&'}) {
            int depth = 0;
            for (int i = 0; i < e.length(); i++) {
                char c = e.charAt(i);
                depth += c == '(' ? 1 : c == ')' ? -1 : 0;
                if (depth == 0 && c == join) {
                    boolean left = holds(e.substring(0, i), facts);
                    boolean right = holds(e.substring(i + 1), facts);
                    return join == '|' ? left || right : left && right;
                }
            }
        }
        if (e.charAt(0) == '!') {
            return !holds(e.substring(1), facts);
        }
        if (e.charAt(0) == '(') {
            return holds(e.substring(1, e.length() - 1), facts);
        }
        int compared = Integer.compare(facts.get(e.charAt(0)), Integer.parseInt(e.substring(2)));
        return compared == "<=>".indexOf(e.charAt(1)) - 1;
    }

    private Grammar() {
    }
}
