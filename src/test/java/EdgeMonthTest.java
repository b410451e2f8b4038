/** Edges of promises 15 to 22: reading, months. */
public final class EdgeMonthTest {
    private static final Edge E = new Edge("EdgeMonthTest");
    private static final int NONE = Edge.NONE, STATE = Edge.STATE, FEWER = Edge.FEWER, MANY = Edge.MANY;
    private static final int FAR_NONE = Edge.FAR_NONE, FAR_BAD = Edge.FAR_BAD;
    /** Each of four is gone unless it has the book above its number ahead of that with its number. */
    private static final String BACKWARDS = "loath 51 m=0&b=0|m=1&b=1|m=2&b=2|m=3&b=3;"
        + "like 30 m=0&b=1|m=1&b=2|m=2&b=3|m=3&b=4;come 0";

    /** 0 is glad of any row of two books, 1 stays only if it has 1 ahead of 0. */
    private static final String STAYS = "like 40 m=0;like 9 m=0&b=1;loath 51 m=1&b=0;like 30 m=1&b=1;come 0";
    /** Of three one goes by any row of two books: 1 by 0 1, with little GLAD for 2; 2 by 1 0. */
    private static final String ONE_GOES = "like 1 m=0&b=1;loath 51 m=1&b=0;like 30 m=1&b=1;"
        + "like 49 m=2&b=0;loath 99 m=2&b=1;come 0";

    public static void main(String[] args) {
        readsRefused();
        readsByLike();
        readsByClauses();
        readsAway();
        readsOwn();
        comesRefused();
        comes();
        comesAway();
        enoughRefused();
        enough();
        enoughHere();
        monthRefused();
        monthLimit();
        monthGone();
        monthComes();
        monthOfNobody();
        byRefused();
        by();
        runRefused();
        runOfNone();
        runFewer();
        runCounts();
        best();
        bestTies();
        rowRefused();
        rowSize();
        rowTies();
        asking();
        E.end(15, 22);
    }

    private static void readsRefused() {
        E.of(15, "NONE");
        for (int m : Edge.outside(0, 2)) {
            E.leaves(Scene.SOME, NONE, "reads", m, 0);
        }
        for (int b : Edge.outside(0, 2)) {
            E.leaves(Scene.SOME, NONE, "reads", 0, b);
        }
        for (int out : Edge.outside(0, 5)) {
            E.leaves(Scene.FULL, NONE, "reads", out, 0);
            E.leaves(Scene.FULL, NONE, "reads", 5, out);
        }
    }

    /** A club by which member 1 has that LIKE. */
    private static String liking(int like) {
        int most = like < 50 ? 50 - like : like - 50;
        String word = like < 50 ? "loath " : "like ";
        return word + Math.min(99, most) + " m=1;" + word + Math.max(0, most - 99) + " m=1";
    }

    private static void readsByLike() {
        E.of(15, "3, and LIKE by 20 (cut toward 0); 0 .. 10, else the bound");
        int[][] cases = {{0, 3}, {1, 3}, {19, 3}, {20, 4}, {39, 4}, {40, 5}, {50, 5}, {59, 5}, {60, 6}, {79, 6},
            {80, 7}, {139, 9}, {140, 10}, {159, 10}, {160, 10}, {200, 10}, {-1, 3}, {-19, 3}, {-20, 2}, {-39, 2},
            {-40, 1}, {-59, 1}, {-60, 0}, {-79, 0}, {-80, 0}, {-140, 0}};
        for (int[] c : cases) {
            ClubReads x = Check.plain(liking(c[0]), 2, 1);
            E.due(x, c[0], "like", 1, 0);
            E.due(x, c[1], "reads", 1, 0);
        }
        E.of(15, "of a book that is HAD, of who is gone");
        E.leaves(Scene.READ, 7, "reads", 1, 0);
        E.leaves(Scene.GONE, 1, "reads", 1, 0);
        E.leaves(Scene.GONE, 10, "reads", 0, 1);
    }

    private static void readsByClauses() {
        E.of(15, "the n of all read whose E holds, together; 0 .. 10, else the bound");
        int[][] cases = {{0, 5}, {1, 6}, {4, 9}, {5, 10}, {6, 10}, {99, 10}};
        for (int[] c : cases) {
            ClubReads x = Check.plain("read " + c[0] + " m=1;read 1 m=2", 3, 1);
            E.due(x, c[1], "reads", 1, 0);
            E.due(x, 6, "reads", 2, 0);
        }
        E.due(Check.plain("read 1 m=1;read 2 b=0;read 1 m=0|m=1", 2, 1), 9, "reads", 1, 0);
        E.of(15, "the bound comes behind all that is put together");
        E.due(Check.plain(liking(-80) + ";read 1 m=1", 2, 1), 0, "reads", 1, 0);
        E.due(Check.plain(liking(-80) + ";read 2 m=1", 2, 1), 1, "reads", 1, 0);
        E.due(Check.plain(liking(-140) + ";read 14 m=1", 2, 1), 10, "reads", 1, 0);
        E.due(Check.plain(liking(-140) + ";read 13 m=1", 2, 1), 9, "reads", 1, 0);
    }

    private static void readsAway() {
        E.of(15, "AWAY: the half of that (cut toward 0), then 0 .. 10");
        int[][] cases = {{0, 2}, {1, 3}, {2, 3}, {6, 5}, {7, 6}, {14, 9}, {15, 10}, {16, 10}, {17, 10}, {99, 10}};
        for (int[] c : cases) {
            ClubReads x = Check.with("read " + c[0] + " m=1");
            x.member(0, 0);
            x.member(6, 0);
            x.book(0, 0, 0, 0);
            E.due(x, c[1], "reads", 1, 0);
        }
        int[][] likes = {{-20, 1}, {-40, 0}, {-60, 0}, {-80, 0}, {-140, 0}};
        for (int[] c : likes) {
            ClubReads x = Check.with(liking(c[0]));
            x.member(0, 0);
            x.member(6, 0);
            x.book(0, 0, 0, 0);
            E.due(x, c[1], "reads", 1, 0);
        }
    }

    private static void readsOwn() {
        E.of(15, "10, if the book is BY it");
        for (int kind = 0; kind <= 6; kind++) {
            ClubReads x = Check.with("loath 99 m<9;loath 99 m<9");
            x.member(kind, 0);
            x.member(kind, 0);
            x.book(99, 0, 0, 1);
            E.due(x, 10, "reads", 1, 0);
            E.due(x, 0, "reads", 0, 0);
            Check.club(x, "read 99 m<9");
            E.due(x, 10, "reads", 1, 0);
        }
    }

    private static void comesRefused() {
        E.of(16, "NONE");
        for (int m : Edge.outside(0, 2)) {
            E.leaves(Scene.SOME, NONE, "comes", m, 0);
        }
        for (int b : Edge.outside(0, 2)) {
            E.leaves(Scene.SOME, NONE, "comes", 0, b);
        }
        for (int out : Edge.outside(0, 5)) {
            E.leaves(Scene.FULL, NONE, "comes", out, 0);
            E.leaves(Scene.FULL, NONE, "comes", 5, out);
        }
    }

    private static void comes() {
        E.of(16, "if READS is come or more");
        for (int reads = 0; reads <= 10; reads++) {
            for (int come = 0; come <= 11; come++) {
                ClubReads x = Check.plain(liking(-60) + ";read " + reads + " m=1;come " + come, 2, 1);
                E.due(x, reads, "reads", 1, 0);
                E.due(x, reads >= come ? 1 : 0, "comes", 1, 0);
                E.due(x, come <= 10 ? 1 : 0, "comes", 0, 0);
            }
        }
        E.due(Check.plain("come 99", 1, 1), 0, "comes", 0, 0);
        E.of(16, "also who is gone, also a book that is HAD");
        for (int b = 0; b < 3; b++) {
            E.leaves(Scene.GONE, 1, "comes", 1, b);
            E.leaves(Scene.READ, 1, "comes", 2, b);
        }
    }

    private static void comesAway() {
        E.of(16, "AWAY: not, if MONTH is a multiple of (v and 2, together)");
        for (int half = 0; half < 2; half++) {
            ClubReads x = Check.with("like 99 m<9;come 0");
            for (int v = 0; v < 5; v++) {
                x.member(6, half * 5 + v);
            }
            Check.addBooks(x, 2);
            for (int month = 0; month <= 22; month++) {
                int count = 0;
                for (int v = 0; v < 5; v++) {
                    boolean off = month % (half * 5 + v + 2) == 0;
                    E.due(x, off ? 0 : 1, "comes", v, 0);
                    E.due(x, off ? 0 : 1, "comes", v, 1);
                    count += off ? 0 : 1;
                }
                E.due(x, count, "month", 1);
                x.had(1, false);
            }
        }
    }

    private static void enoughRefused() {
        E.of(17, "NO: book, k, part");
        for (int part = 0; part < 2; part++) {
            for (int b : Edge.outside(0, 2)) {
                E.leaves(Scene.SOME, Edge.NO, "enough", b, 0, part);
            }
            for (int k : Edge.outside(0, 6)) {
                E.leaves(Scene.SOME, Edge.NO, "enough", 0, k, part);
                E.leaves(Scene.GONE, Edge.NO, "enough", 0, k, part);
            }
            for (int b : Edge.outside(0, 5)) {
                E.leaves(Scene.FULL, Edge.NO, "enough", b, 6, part);
            }
        }
        for (int part : Edge.outside(0, 1)) {
            E.leaves(Scene.SOME, Edge.NO, "enough", 0, 0, part);
            E.leaves(Scene.FULL, Edge.NO, "enough", 5, 6, part);
        }
    }

    private static void part(ClubReads x, int book, int k, long above, long below) {
        E.due(x, above, "enough", book, k, 0);
        E.due(x, below, "enough", book, k, 1);
    }

    private static void enough() {
        E.of(17, "k or more, k 0 .. 6: a fraction in lowest terms");
        // One reads it for sure, five with 5 of ten each.
        ClubReads x = Check.plain("come 5", 6, 1);
        part(x, 0, 0, 1, 1);
        part(x, 0, 1, 1, 1);
        part(x, 0, 2, 31, 32);
        part(x, 0, 3, 13, 16);
        part(x, 0, 4, 1, 2);
        part(x, 0, 5, 3, 16);
        part(x, 0, 6, 1, 32);
        E.of(17, "odds of 9, of 1 in ten: all digits stay");
        Check.club(x, "read 4 m>0");
        part(x, 0, 6, 59049, 100000);
        part(x, 0, 2, 99999, 100000);
        Check.club(x, "loath 90 m>0");
        E.due(x, 1, "reads", 1, 0);
        part(x, 0, 6, 1, 100000);
        part(x, 0, 2, 100000 - 59049, 100000);
        E.of(17, "odds of 0, of 10 in ten: nothing, or all, for sure");
        Check.club(x, "loath 99 m>0;loath 99 m>0");
        part(x, 0, 1, 1, 1);
        part(x, 0, 2, 0, 1);
        part(x, 0, 6, 0, 1);
        Check.club(x, "read 9 m>0");
        part(x, 0, 6, 1, 1);
    }

    private static void enoughHere() {
        E.of(17, "of members HERE: fewer than k, nobody, who is gone");
        ClubReads x = Check.plain("come 5", 2, 1);
        part(x, 0, 2, 1, 2);
        part(x, 0, 3, 0, 1);
        part(x, 0, 6, 0, 1);
        part(Scene.GONE.make(), 0, 0, 1, 1);
        part(Scene.GONE.make(), 0, 1, 0, 1);
        part(Scene.GONE.make(), 2, 6, 0, 1);
        // 0, by whom the book is, goes: the other one has 5 of ten.
        ClubReads y = Check.plain("loath 51 m=0;come 0", 2, 2);
        y.month(0);
        E.due(y, 2, "told", 2);
        part(y, 0, 1, 1, 2);
        part(y, 1, 0, 1, 1);
        part(y, 1, 2, 0, 1);
        E.of(17, "six members and then five: what was asked before does not count");
        ClubReads six = Check.plain("loath 51 m=0;come 0", 6, 1);
        part(six, 0, 6, 1, 32);
        six.month(0);
        E.due(six, 62, "told", 2);
        part(six, 0, 6, 0, 1);
        part(six, 0, 5, 1, 32);
        E.of(17, "AWAY reads by its odds in any MONTH, come whatever");
        ClubReads z = Check.with("come 99");
        z.member(6, 0);
        z.book(0, 0, 0, 0);
        part(z, 0, 1, 1, 1);
    }

    private static void monthRefused() {
        E.of(18, "NONE");
        for (int b : Edge.outside(0, 2)) {
            E.leaves(Scene.SOME, NONE, "month", b);
            E.leaves(Scene.GONE, NONE, "month", b);
        }
        for (int b : Edge.outside(0, 5)) {
            E.leaves(Scene.FULL, NONE, "month", b);
        }
        E.of(18, "STATE: it is HAD");
        E.leaves(Scene.SOME, STATE, "month", 1);
        E.leaves(Scene.FIVE, STATE, "month", 4);
        E.leaves(Scene.GONE, STATE, "month", 1);
        for (int b = 0; b < 3; b++) {
            E.leaves(Scene.READ, STATE, "month", b);
        }
        E.of(18, "STATE: there were 99 MONTHS");
        for (int b = 0; b < 3; b++) {
            E.leaves(Scene.SPENT, STATE, "month", b);
        }
        E.of(18, "NONE is told ahead of STATE");
        for (int b : Edge.outside(0, 2)) {
            E.leaves(Scene.SPENT, NONE, "month", b);
        }
    }

    private static void monthLimit() {
        E.of(18, "there were 99 MONTHS: the 99th goes, the 100th does not");
        ClubReads x = Check.plain("come 5", 1, 1);
        for (int month = 0; month < 99; month++) {
            E.due(x, month, "told", 0);
            E.due(x, 1, "month", 0);
            x.had(0, false);
        }
        E.due(x, 99, "told", 0);
        E.due(x, STATE, "month", 0);
        E.due(x, 99, "told", 0);
        E.due(x, 0, "at", 0, 4);
        E.of(18, "undo leads back to where a MONTH goes");
        ClubReads y = Check.plain("come 5", 1, 1);
        for (int month = 0; month < 98; month++) {
            y.month(0);
            y.had(0, false);
        }
        y.image();
        E.due(y, 1, "month", 0);
        E.due(y, STATE, "month", 0);
        y.undo();
        E.due(y, 98, "told", 0);
        E.due(y, 1, "month", 0);
    }

    private static void monthGone() {
        E.of(18, "whose GLAD is below -50 is gone");
        ClubReads x = Check.plain("loath 49 m=0;loath 50 m=1;loath 51 m=2;come 0", 3, 2);
        E.due(x, 3, "month", 0);
        for (int m = 0; m < 3; m++) {
            E.due(x, -49 - m, "of", m, 2);
            E.due(x, m < 2 ? 1 : 0, "of", m, 3);
        }
        E.of(18, "each other one 10 less: five times, and once more");
        ClubReads y = Check.plain("come 11", 2, 6);
        for (int b = 0; b < 6; b++) {
            E.due(y, 3, "told", 2);
            E.due(y, 0, "month", b);
            E.due(y, -10 * (b + 1), "of", 1, 2);
        }
        E.due(y, 0, "told", 2);
        E.of(18, "members HERE: who is gone neither comes nor changes, and is not HERE again");
        y.had(0, false);
        Check.club(y, "like 99 m<9;come 0");
        E.due(y, 1, "comes", 1, 0);
        E.due(y, 0, "month", 0);
        E.due(y, -60, "of", 0, 2);
        E.due(y, 0, "told", 2);
        E.of(18, "all who are below -50 are gone in the same MONTH, the last too");
        ClubReads z = Check.plain("loath 51 m<9;come 0", 6, 1);
        E.due(z, 6, "month", 0);
        E.due(z, 0, "told", 2);
    }

    private static void monthComes() {
        E.of(18, "LIKE less 50 more GLAD: nothing at 50, more or less by 1");
        ClubReads x = Check.plain("like 1 m=1;loath 1 m=2;loath 99 m=3;like 99 m=4;read 9 m=3", 5, 2);
        int[] glad = {0, 1, -1, -99, 99};
        E.due(x, 5, "month", 0);
        for (int m = 0; m < 5; m++) {
            E.due(x, glad[m], "of", m, 2);
        }
        E.due(x, 1, "at", 0, 4);
        E.due(x, 0, "at", 1, 4);
        E.due(x, 1, "told", 0);
        E.of(18, "how many COME: READS is come, and one less");
        ClubReads y = Check.plain("come 5;loath 10 m=1;loath 11 m=2", 3, 1);
        E.due(y, 2, "month", 0);
        E.due(y, -10, "of", 1, 2);
        E.due(y, -10, "of", 2, 2);
    }

    private static void monthOfNobody() {
        E.of(18, "nobody is HERE: a MONTH goes all the same");
        ClubReads x = Scene.GONE.make();
        E.due(x, 0, "month", 2);
        E.due(x, 2, "told", 0);
        E.due(x, 1, "told", 3);
        E.due(x, -99, "of", 0, 2);
    }

    private static void byRefused() {
        E.of(19, "NONE");
        for (Scene scene : Scene.values()) {
            for (int way : Edge.outside(0, 5)) {
                E.leaves(scene, NONE, "by", way);
            }
        }
        for (int way = 0; way < 6; way++) {
            E.of(19, "STATE: no book is OPEN");
            E.leaves(Scene.READ, STATE, "by", way);
            E.leaves(Scene.EMPTY, STATE, "by", way);
            E.of(19, "STATE: there were 99 MONTHS");
            E.leaves(Scene.SPENT, STATE, "by", way);
        }
    }

    private static void by() {
        E.of(19, "with the book CHOSEN: the book");
        for (int way = 0; way < 6; way++) {
            for (Scene scene : new Scene[] {Scene.SOME, Scene.FULL, Scene.FIVE, Scene.GONE}) {
                int book = scene.make().chosen(way, 0);
                ClubReads x = scene.make();
                int month = x.told(0);
                E.due(x, book, "by", way);
                E.due(x, 1, "at", book, 4);
                E.due(x, month + 1, "told", 0);
                ClubReads y = scene.make();
                y.month(book);
                for (int m = 0; m < 6; m++) {
                    E.due(x, y.of(m, 2), "of", m, 2);
                    E.due(x, y.of(m, 3), "of", m, 3);
                }
            }
        }
        E.of(19, "till no book is OPEN; the 99th MONTH goes");
        ClubReads x = Check.plain("come 5", 1, 2);
        E.due(x, 0, "by", 0);
        E.due(x, 1, "by", 0);
        E.due(x, STATE, "by", 0);
        for (int month = 2; month < 99; month++) {
            x.had(1, false);
            E.due(x, 1, "by", month % 6);
        }
        x.had(1, false);
        E.due(x, STATE, "by", 0);
        E.due(x, 99, "told", 0);
    }

    private static void runRefused() {
        E.of(20, "-10001: NONE: way, what");
        for (int way : Edge.outside(0, 5)) {
            E.leaves(Scene.SOME, FAR_NONE, "run", 0, way, 0);
            E.leaves(Scene.READ, FAR_NONE, "run", 6, way, 10);
        }
        for (int what : new int[] {Edge.LEAST, -1, 3, 4, 9, 13, 15, 16, Edge.MOST}) {
            E.leaves(Scene.SOME, FAR_NONE, "run", 0, 0, what);
        }
        for (int what : new int[] {3, 9, 16}) {
            E.leaves(Scene.FULL, FAR_NONE, "run", 6, 5, what);
        }
        E.leaves(Scene.EMPTY, FAR_NONE, "run", 0, 0, 10);
        E.of(20, "-10002: BAD: n");
        for (int n : Edge.outside(0, 6)) {
            E.leaves(Scene.SOME, FAR_BAD, "run", n, 0, 0);
            E.leaves(Scene.FULL, FAR_BAD, "run", n, 5, 15);
            E.leaves(Scene.READ, FAR_BAD, "run", n, 0, 2);
            E.leaves(Scene.EMPTY, FAR_BAD, "run", n, 0, 1);
        }
        E.of(20, "NONE is told ahead of BAD");
        for (int n : Edge.outside(0, 6)) {
            E.leaves(Scene.SOME, FAR_NONE, "run", n, 6, 0);
            E.leaves(Scene.SOME, FAR_NONE, "run", n, -1, 0);
            E.leaves(Scene.SOME, FAR_NONE, "run", n, 0, 3);
            E.leaves(Scene.SOME, FAR_NONE, "run", n, 0, 13);
        }
    }

    private static void runOfNone() {
        E.of(20, "RUN of 0 MONTHS: all is as it is");
        for (Scene scene : Scene.values()) {
            ClubReads x = scene.make();
            E.leaves(scene, x.told(2), "run", 0, 3, 0);
            E.leaves(scene, 0, "run", 0, 3, 1);
            for (int m = 0; m < x.count(0); m++) {
                E.leaves(scene, x.of(m, 2), "run", 0, 3, 10 + m);
            }
        }
        E.leaves(Scene.READ, 1, "run", 0, 0, 2);
        E.leaves(Scene.SOME, 1, "run", 0, 0, 2);
        E.leaves(Scene.FULL, 0, "run", 0, 0, 2);
    }

    private static void runFewer() {
        E.of(20, "fewer, if no book is OPEN");
        for (int n = 0; n <= 6; n++) {
            for (int way = 0; way < 6; way++) {
                E.leaves(Scene.READ, 7, "run", n, way, 0);
                E.leaves(Scene.READ, 0, "run", n, way, 1);
                E.leaves(Scene.READ, 1, "run", n, way, 2);
                E.leaves(Scene.READ, 0, "run", n, way, 11);
            }
        }
        ClubReads x = Check.plain("like 7 m=1;come 0", 2, 3);
        for (int n = 0; n <= 6; n++) {
            E.due(x, 2 * Math.min(n, 3), "run", n, 0, 1);
            E.due(x, 7 * Math.min(n, 3), "run", n, 0, 11);
        }
        E.of(20, "n MONTHS, 6 at most, with six books");
        ClubReads y = new ClubReads();
        for (int i = 0; i < 6; i++) {
            y.member(0, 0);
            y.book(0, 0, 0, i);
        }
        for (int n = 0; n <= 6; n++) {
            E.due(y, 6 * n, "run", n, 0, 1);
            E.due(y, n, "run", n, 0, 2);
        }
        E.of(20, "RUN goes past 99 MONTHS: month and by alone are refused then");
        E.leaves(Scene.SPENT, 6, "run", 6, 0, 1);
        E.leaves(Scene.SPENT, 30 + Scene.SPENT.make().of(1, 2), "run", 6, 0, 11);
    }

    private static void runCounts() {
        E.of(20, "members HERE then; who is gone on the way comes no more");
        // -1 LIKE for book 1: 1 is gone behind it.
        ClubReads x = Check.plain("loath 51 m=1&b=1;come 0", 2, 3);
        int[] here = {3, 3, 1, 1};
        int[] came = {0, 2, 4, 5};
        int[] glad = {0, 0, -51, -51};
        for (int n = 0; n < 4; n++) {
            E.due(x, here[n], "run", n, 2, 0);
            E.due(x, came[n], "run", n, 2, 1);
            E.due(x, glad[n], "run", n, 2, 11);
        }
        E.of(20, "of how many MEMBERS (BY) books are HAD then: of who is gone too, each once");
        ClubReads y = Check.with("loath 51 m=5;come 0");
        for (int m = 0; m < 6; m++) {
            y.member(0, 0);
        }
        for (int by : new int[] {5, 5, 0, 5, 0, 3}) {
            y.book(0, 0, 0, by);
        }
        int[] whose = {0, 1, 1, 2, 2, 2, 3};
        for (int n = 0; n <= 6; n++) {
            E.due(y, whose[n], "run", n, 2, 2);
        }
        E.due(y, 31, "run", 1, 2, 0);
    }

    private static void best() {
        E.of(21, "no books, nobody: the least way");
        E.leaves(Scene.EMPTY, 0, "best");
        E.leaves(Scene.READ, 0, "best");
        E.leaves(Scene.GONE, 0, "best");
        E.leaves(Scene.SPENT, 0, "best");
        E.of(21, "the most members are HERE, even if GLAD is less");
        // HANDS of two books choose 0 first, the others 1; 1 stays only if it has 1 ahead of 0.
        ClubReads x = Check.plain(STAYS, 2, 2);
        E.due(x, 1, "run", 6, 0, 0);
        E.due(x, 3, "run", 6, 1, 0);
        E.due(x, 1, "best");
        E.of(21, "GLAD of these: who is gone does not count");
        // By HANDS 0 and 2 are HERE with 1 and -50, 1 is gone with -51; else 0 and 1 with 1 and -21, 2 with -99.
        ClubReads y = Check.plain(ONE_GOES, 3, 2);
        int[][] glad = {{1, -51, -50}, {1, -21, -99}};
        for (int way = 0; way < 6; way++) {
            for (int m = 0; m < 3; m++) {
                E.due(y, glad[way == 0 ? 0 : 1][m], "run", 6, way, 10 + m);
            }
        }
        E.due(y, 1, "best");
    }

    private static void bestTies() {
        E.of(21, "of several the least");
        E.due(Check.plain("come 5", 3, 4), 0, "best");
        E.of(21, "the last way may be the best");
        // 0 stays only if it has 1 ahead of 0, which the others like more.
        ClubReads x = Check.plain("loath 51 m=0&b=0;like 30 m=0&b=1;like 9 m>0&b=0;come 0", 3, 2);
        E.due(x, 6, "run", 6, 4, 0);
        E.due(x, 7, "run", 6, 5, 0);
        E.due(x, 5, "best");
        E.of(21, "behind 6 MONTHS, not fewer");
        // HANDS leave the best book to the end, so that they are as good as POINTS in the sixth month alone.
        ClubReads y = Check.plain("like 1 b>0;like 1 b>1;like 1 b>2;like 1 b>3;like 1 b>4;come 0", 1, 6);
        E.due(y, 10, "run", 5, 0, 10);
        E.due(y, 15, "run", 5, 1, 10);
        E.due(y, 15, "run", 6, 0, 10);
        E.due(y, 0, "best");
    }

    private static void rowRefused() {
        E.of(22, "NONE: k (0 .. 4)");
        for (Scene scene : Scene.values()) {
            for (int k : Edge.outside(0, 4)) {
                E.leaves(scene, NONE, "row", k);
            }
        }
        E.of(22, "-9: 5 at most");
        for (int k = 0; k <= 4; k++) {
            E.leaves(Scene.FULL, MANY, "row", k);
        }
        E.of(22, "-5: there are fewer");
        for (int k = 0; k <= 4; k++) {
            E.leaves(Scene.READ, FEWER, "row", k);
            E.leaves(Scene.EMPTY, FEWER, "row", k);
            E.leaves(Scene.GONE, new int[] {0, 2, FEWER, FEWER, FEWER}[k], "row", k);
        }
    }

    private static void rowSize() {
        E.of(22, "rows of all OPEN books, one to five");
        ClubReads x = Check.plain("come 5", 1, 0);
        for (int books = 0; books <= 5; books++) {
            for (int k = 0; k <= 4; k++) {
                E.due(x, k < books ? k : FEWER, "row", k);
            }
            Check.addBooks(x, 1);
        }
        E.due(x, MANY, "row", 0);
        x.had(0, true);
        for (int k = 0; k <= 4; k++) {
            E.due(x, k + 1, "row", k);
        }
        E.of(22, "the last row of all may be the best");
        ClubReads y = Check.plain(BACKWARDS, 4, 5);
        for (int k = 0; k <= 4; k++) {
            E.due(y, 4 - k, "row", k);
        }
        E.of(22, "BEST ROW goes past 99 MONTHS");
        E.leaves(Scene.SPENT, 0, "row", 0);
        E.leaves(Scene.SPENT, 2, "row", 1);
        E.leaves(Scene.SPENT, FEWER, "row", 2);
    }

    private static void rowTies() {
        E.of(22, "of several the first as a row");
        for (int k = 0; k <= 4; k++) {
            E.due(Check.plain("come 5", 6, 5), k, "row", k);
        }
        E.of(22, "the most members are HERE, even if GLAD is less");
        E.due(Check.plain(STAYS, 2, 2), 1, "row", 0);
        E.due(Check.plain(STAYS, 2, 2), 0, "row", 1);
        E.of(22, "GLAD of these: who is gone does not count");
        E.due(Check.plain(ONE_GOES, 3, 2), 1, "row", 0);
        E.due(Check.plain(ONE_GOES, 3, 2), 0, "row", 1);
        E.of(22, "one a MONTH: AWAY, who is off in months 0 and 2, had best have 2 in month 1");
        ClubReads y = Check.with("like 40 b=2;come 1");
        y.member(6, 0);
        Check.addBooks(y, 3);
        for (int k = 0; k < 3; k++) {
            E.due(y, new int[] {0, 2, 1}[k], "row", k);
        }
        E.of(22, "of several the first as a row: 3 ahead of 1, all else is the same");
        ClubReads x = Check.plain("loath 51 m=0&b=1;like 30 m=0&b=3;come 0", 1, 5);
        int[] due = {0, 2, 3, 1, 4};
        for (int k = 0; k <= 4; k++) {
            E.due(x, due[k], "row", k);
        }
    }

    private static void asking() {
        E.of(20, "what is asked changes nothing");
        for (Scene scene : Scene.values()) {
            for (int part = 0; part < Look.PARTS; part++) {
                ClubReads x = scene.make();
                for (int way = 0; way < 6; way++) {
                    x.run(6, way, way % 3);
                    x.reads(way, way);
                    x.comes(way, way);
                    x.enough(way, way, 1);
                    x.row(way);
                }
                x.best();
                E.untouched(scene, part, x, "what is asked of months");
            }
        }
    }

    private EdgeMonthTest() {
    }
}
