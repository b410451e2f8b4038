import java.util.Random;

/** Runs of calls, drawn from fixed seeds, on ClubReads and on the model; each answer must be the same. */
public final class ModelTest {
    private static final Check CHECK = new Check("ModelTest");
    private static final int RUNS = 700;
    private static final int CALLS = 512;

    private final Random random;
    private final ClubReads x = new ClubReads();
    private final Model y = new Model();
    private final int seed;
    private int calls = 0;

    private ModelTest(int seed) {
        this.seed = seed;
        this.random = new Random(seed);
    }

    public static void main(String[] args) {
        for (int seed = 0; seed < RUNS && CHECK.wrong() < 20; seed++) {
            new ModelTest(seed).go();
        }
        CHECK.end();
    }

    private void go() {
        club();
        for (int i = 2 + random.nextInt(5); i > 0; i--) {
            member();
        }
        for (int i = 2 + random.nextInt(5); i > 0; i--) {
            book();
        }
        while (calls < CALLS && CHECK.wrong() < 20) {
            any();
        }
    }

    private void same(String call, long got, long want) {
        calls++;
        CHECK.due("seed " + seed + ", call " + calls + ": " + call, got, want);
    }

    /** Mostly 0 .. bound - 1, at times just outside, at times far off. */
    private int number(int bound) {
        int dice = random.nextInt(40);
        if (dice == 0) {
            return -1;
        }
        if (dice == 1) {
            return bound;
        }
        if (dice == 2) {
            return random.nextInt(3) == 0 ? random.nextInt() : random.nextBoolean() ? Integer.MIN_VALUE : Integer.MAX_VALUE;
        }
        return random.nextInt(bound);
    }

    private int m() {
        int there = Math.max(1, y.count(0));
        return number(random.nextInt(10) == 0 ? 7 : there);
    }

    private int b() {
        int there = Math.max(1, y.count(1));
        return number(random.nextInt(10) == 0 ? 7 : there);
    }

    private void club() {
        String text = text();
        for (int i = 0; i < text.length(); i++) {
            same("feed(" + (int) text.charAt(i) + ")", x.feed(text.charAt(i)), y.feed(text.charAt(i)));
        }
        same("club() of " + text, x.club(), y.club());
        same("told(1)", x.told(1), y.told(1));
    }

    private String text() {
        StringBuilder text = new StringBuilder();
        int clauses = 1 + random.nextInt(random.nextInt(8) == 0 ? 12 : 6);
        for (int i = 0; i < clauses; i++) {
            String clause = clause();
            if (text.length() + clause.length() < 100 || random.nextInt(30) == 0) {
                text.append(i == 0 ? "" : ";").append(clause);
            }
        }
        if (random.nextInt(4) == 0) {
            spoil(text);
        }
        if (random.nextInt(20) == 0) {
            text.setLength(random.nextInt(text.length() + 1));
        }
        return text.toString();
    }

    private void spoil(StringBuilder text) {
        String signs = "mkbpos<=>&|!();0123456789 liketoahrdcm";
        int at = random.nextInt(text.length() + 1);
        char sign = random.nextInt(5) == 0 ? (char) random.nextInt(128) : signs.charAt(random.nextInt(signs.length()));
        if (at == text.length() || random.nextInt(3) == 0) {
            text.insert(at, sign);
        } else if (random.nextBoolean()) {
            text.setCharAt(at, sign);
        } else {
            text.deleteCharAt(at);
        }
    }

    private String clause() {
        switch (random.nextInt(9)) {
            case 0:
                return "come " + random.nextInt(random.nextInt(4) == 0 ? 100 : 11);
            case 1:
            case 2:
                return "read " + random.nextInt(8) + " " + e(0);
            case 3:
            case 4:
            case 5:
                return "loath " + random.nextInt(100) + " " + e(0);
            default:
                return "like " + random.nextInt(random.nextInt(4) == 0 ? 100 : 40) + " " + e(0);
        }
    }

    private String e(int depth) {
        switch (random.nextInt(depth > 6 ? 1 : 9)) {
            case 1:
                return e(depth + 2) + "|" + e(depth + 2);
            case 2:
                return e(depth + 2) + "&" + e(depth + 2);
            case 3:
                return "!" + e(depth + 1);
            case 4:
                return "(" + e(depth + 1) + ")";
            case 5:
                return "(" + e(depth + 1) + "|" + e(depth + 2) + ")&" + e(depth + 2);
            default:
                int which = random.nextInt(6);
                int bound = new int[] {6, 7, 6, 10, 10, 4}[which];
                return "mkbpos".charAt(which) + "" + "<=>".charAt(random.nextInt(3)) + random.nextInt(bound + 1);
        }
    }

    private void member() {
        int kind = number(7);
        int v = number(10);
        same("member(" + kind + ", " + v + ")", x.member(kind, v), y.member(kind, v));
    }

    private void book() {
        int pages = number(100);
        int mood = number(10);
        int sort = number(4);
        int by = m();
        same("book(" + pages + ", " + mood + ", " + sort + ", " + by + ")", x.book(pages, mood, sort, by),
            y.book(pages, mood, sort, by));
    }

    private void any() {
        int dice = random.nextInt(100);
        if (dice < 30) {
            change(dice);
        } else if (dice < 70) {
            ask(dice);
        } else {
            askMonths(dice);
        }
    }

    private void change(int dice) {
        int b = b();
        int way = number(6);
        if (dice < 1) {
            club();
        } else if (dice < 2) {
            int sign = number(128);
            same("feed(" + sign + ")", x.feed(sign), y.feed(sign));
        } else if (dice < 4) {
            member();
        } else if (dice < 6) {
            book();
        } else if (dice < 14) {
            boolean is = random.nextInt(4) == 0;
            same("had(" + b + ", " + is + ")", x.had(b, is), y.had(b, is));
        } else if (dice < 17) {
            same("month(" + b + ")", x.month(b), y.month(b));
        } else if (dice < 20) {
            same("by(" + way + ")", x.by(way), y.by(way));
        } else if (dice < 24) {
            int n = random.nextInt(20) == 0 ? -1 : random.nextInt(3) == 0 ? number(13) : random.nextInt(4);
            same("hand(" + n + ")", x.hand(n), y.hand(n));
        } else if (dice < 26) {
            same("image()", x.image(), y.image());
        } else {
            same("undo()", x.undo(), y.undo());
        }
    }

    private void ask(int dice) {
        int m = m();
        int b = b();
        int what = number(6);
        int k = number(7);
        int x0 = random.nextBoolean() ? random.nextInt(100) : random.nextInt();
        switch (dice % 10) {
            case 0:
                same("of(" + m + ", " + what + ")", x.of(m, what), y.of(m, what));
                break;
            case 1:
                same("at(" + b + ", " + what + ")", x.at(b, what), y.at(b, what));
                break;
            case 2:
                same("told(" + what + ")", x.told(what), y.told(what));
                break;
            case 3:
                same("like(" + m + ", " + b + ")", x.like(m, b), y.like(m, b));
                break;
            case 4:
                int which = number(2);
                same("order(" + m + ", " + which + ", " + k + ")", x.order(m, which, k), y.order(m, which, k));
                break;
            case 5:
                int act = number(3);
                same("act(" + m + ", " + act + ", " + x0 + ")", x.act(m, act, x0), y.act(m, act, x0));
                break;
            case 6:
                same("trace(" + k + ")", x.trace(k), y.trace(k));
                break;
            case 7:
                same("as(" + m + ", " + k + ")", x.as(m, k), y.as(m, k));
                break;
            case 8:
                same("count(" + what + ")", x.count(what), y.count(what));
                break;
            default:
                same("looked()", x.looked(), y.looked());
                break;
        }
    }

    private void askMonths(int dice) {
        int m = m();
        int b = b();
        int way = number(6);
        int k = number(7);
        int part = number(2);
        switch (dice % 10) {
            case 0:
                same("reads(" + m + ", " + b + ")", x.reads(m, b), y.reads(m, b));
                break;
            case 1:
                same("comes(" + m + ", " + b + ")", x.comes(m, b), y.comes(m, b));
                break;
            case 2:
            case 3:
                same("enough(" + b + ", " + k + ", " + part + ")", x.enough(b, k, part), y.enough(b, k, part));
                break;
            case 4:
            case 5:
                same("chosen(" + way + ", " + part + ")", x.chosen(way, part), y.chosen(way, part));
                break;
            case 6:
                int what = random.nextBoolean() ? number(3) : 10 + random.nextInt(6);
                same("run(" + k + ", " + way + ", " + what + ")", x.run(k, way, what), y.run(k, way, what));
                break;
            case 7:
                dear(dice, m, way);
                break;
            case 8:
                same("best()", x.best(), y.best());
                break;
            default:
                same("order(" + m + ", 1, " + k + ")", x.order(m, 1, k), y.order(m, 1, k));
                break;
        }
    }

    /** What goes through all rows is asked more seldom, for the model is slow in it. */
    private void dear(int dice, int m, int way) {
        if (dice == 77) {
            same("alone(" + way + ")", x.alone(way), y.alone(way));
        } else if (dice == 87) {
            same("gain(" + m + ", " + way + ")", x.gain(m, way), y.gain(m, way));
        } else {
            int k = number(5);
            same("row(" + k + ")", x.row(k), y.row(k));
        }
    }
}
