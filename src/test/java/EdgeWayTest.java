/** Edges of promises 10 to 14: likes, orders, ways. */
public final class EdgeWayTest {
    private static final Edge E = new Edge("EdgeWayTest");
    private static final int NONE = Edge.NONE, STATE = Edge.STATE, FEWER = Edge.FEWER, MANY = Edge.MANY;
    private static final int FAR_NONE = Edge.FAR_NONE;

    public static void main(String[] args) {
        likeRefused();
        likeOfClauses();
        likeOfKinds();
        orderRefused();
        orderSize();
        orderTies();
        orderOfTheGone();
        paying();
        payingCounts();
        following();
        followingOrder();
        striking();
        away();
        chosenRefused();
        chosenOfFew();
        noOrders();
        nobodyHere();
        hands();
        points();
        firsts();
        rounds();
        pairs();
        turns();
        turnsOfWhoSaysNothing();
        trueLikes();
        aloneRefused();
        aloneOfFew();
        aloneWho();
        gainRefused();
        gainOfFew();
        gainMore();
        askedBefore();
        asking();
        E.end(10, 14);
    }

    private static void likeRefused() {
        E.of(10, "-10001: NONE");
        for (int m : Edge.outside(0, 2)) {
            E.leaves(Scene.SOME, FAR_NONE, "like", m, 0);
            E.leaves(Scene.SOME, FAR_NONE, "like", m, 3);
        }
        for (int b : Edge.outside(0, 2)) {
            E.leaves(Scene.SOME, FAR_NONE, "like", 0, b);
        }
        for (int out : Edge.outside(0, 5)) {
            E.leaves(Scene.FULL, FAR_NONE, "like", 0, out);
            E.leaves(Scene.FULL, FAR_NONE, "like", out, 5);
        }
    }

    private static void likeOfClauses() {
        E.of(10, "50, and the n of all like, less those of all loath, together");
        ClubReads x = Check.plain("like 99 m=0" + ";like 99 m=0".repeat(7), 2, 1);
        E.due(x, 50 + 8 * 99, "like", 0, 0);
        E.due(x, 50, "like", 1, 0);
        x = Check.plain("loath 99 m=0" + ";loath 99 m=0".repeat(6), 2, 1);
        E.due(x, 50 - 7 * 99, "like", 0, 0);
        E.due(x, 50, "like", 1, 0);
        x = Check.plain("like 0 m=0;loath 0 m=0;read 9 m=0;come 9", 1, 1);
        E.due(x, 50, "like", 0, 0);
        x = Check.plain("like 30 m=0;loath 31 m=0;like 2 m=0", 1, 1);
        E.due(x, 51, "like", 0, 0);
        E.of(10, "of a book that is HAD, for who is gone");
        E.leaves(Scene.READ, 80, "like", 1, 0);
        E.leaves(Scene.GONE, -49, "like", 2, 1);
    }

    private static void likeOfKinds() {
        E.of(10, "PROUD, STRIKING: 5 times v more, if the book is BY that member");
        for (int kind = 0; kind <= 6; kind++) {
            ClubReads x = new ClubReads();
            x.member(kind, 0);
            x.member(kind, 9);
            x.book(1, 0, 0, 0);
            x.book(1, 0, 0, 1);
            boolean proud = kind == 2 || kind == 5;
            E.due(x, 50, "like", 0, 0);
            E.due(x, 50, "like", 0, 1);
            E.due(x, 50, "like", 1, 0);
            E.due(x, proud ? 95 : 50, "like", 1, 1);
        }
        E.of(10, "SHORT, AWAY: PAGES by 2 (cut) less");
        int[] pages = {0, 1, 2, 3, 98, 99};
        for (int kind = 0; kind <= 6; kind++) {
            ClubReads x = new ClubReads();
            x.member(kind, 0);
            for (int b = 0; b < 6; b++) {
                x.book(pages[b], 0, 0, 0);
                boolean cut = kind == 3 || kind == 6;
                E.due(x, cut ? 50 - new int[] {0, 0, 1, 1, 49, 49}[b] : 50, "like", 0, b);
            }
        }
    }

    private static void orderRefused() {
        E.of(11, "NONE: member, what, k (0 .. 5)");
        for (int m : Edge.outside(0, 2)) {
            E.leaves(Scene.SOME, NONE, "order", m, 0, 0);
            E.leaves(Scene.SOME, NONE, "order", m, 1, 5);
        }
        for (int what : Edge.outside(0, 1)) {
            E.leaves(Scene.SOME, NONE, "order", 0, what, 0);
        }
        for (int k : Edge.outside(0, 5)) {
            E.leaves(Scene.SOME, NONE, "order", 0, 0, k);
            E.leaves(Scene.SOME, NONE, "order", 0, 1, k);
            E.leaves(Scene.FULL, NONE, "order", 0, 0, k);
            E.leaves(Scene.GONE, NONE, "order", 0, 1, k);
            E.leaves(Scene.READ, NONE, "order", 0, 0, k);
        }
    }

    private static void orderSize() {
        E.of(11, "-5: there are fewer");
        ClubReads x = new ClubReads();
        x.member(0, 0);
        for (int open = 0; open <= 6; open++) {
            for (int k = 0; k <= 5; k++) {
                E.due(x, k < open ? k : FEWER, "order", 0, 0, k);
                E.due(x, k < open ? k : FEWER, "order", 0, 1, k);
            }
            x.book(0, 0, 0, 0);
        }
        for (int had = 0; had <= 5; had++) {
            x.had(had, true);
            for (int k = 0; k <= 5; k++) {
                E.due(x, k < 5 - had ? had + 1 + k : FEWER, "order", 0, 0, k);
                E.due(x, k < 5 - had ? had + 1 + k : FEWER, "order", 0, 1, k);
            }
        }
    }

    private static void row(ClubReads x, int m, int what, int... books) {
        for (int k = 0; k < 6; k++) {
            E.due(x, k < books.length ? books[k] : FEWER, "order", m, what, k);
        }
    }

    private static void orderTies() {
        E.of(11, "the most LIKE first (of several the least number first)");
        ClubReads x = Check.plain("like 1 b=5&m=1;like 1 b<2&m=2;loath 1 b=0&m=3", 4, 6);
        row(x, 0, 0, 0, 1, 2, 3, 4, 5);
        row(x, 1, 0, 5, 0, 1, 2, 3, 4);
        row(x, 2, 0, 0, 1, 2, 3, 4, 5);
        row(x, 3, 0, 1, 2, 3, 4, 5, 0);
        Check.club(x, "like 10 b>0;like 10 b>1;like 10 b>2;like 10 b>3;like 10 b>4");
        row(x, 0, 0, 5, 4, 3, 2, 1, 0);
        row(x, 0, 1, 5, 4, 3, 2, 1, 0);
    }

    private static void orderOfTheGone() {
        E.of(11, "who is gone says nothing, and has an ORDER");
        for (int m = 0; m < 3; m++) {
            E.leaves(Scene.GONE, FEWER, "order", m, 1, 0);
            E.leaves(Scene.GONE, 0, "order", m, 0, 0);
            E.leaves(Scene.GONE, 2, "order", m, 0, 1);
            E.leaves(Scene.GONE, FEWER, "order", m, 0, 2);
        }
        E.of(11, "no book is OPEN: nobody says anything, and no ORDER");
        for (int k = 0; k < 6; k++) {
            E.leaves(Scene.READ, FEWER, "order", 0, 0, k);
            E.leaves(Scene.READ, FEWER, "order", 0, 1, k);
        }
    }

    private static void paying() {
        E.of(11, "PAYING: comes last, if it is not first in its own");
        ClubReads x = Check.with("like 9 m<2&b=1");
        x.member(0, 0);
        x.member(1, 0);
        x.member(1, 0);
        Check.addBooks(x, 3);
        row(x, 1, 1, 1, 0, 2);
        row(x, 2, 0, 0, 1, 2);
        row(x, 2, 1, 0, 2, 1);
        E.of(11, "PAYING: of several the least");
        x.member(0, 0);
        row(x, 1, 1, 1, 2, 0);
        row(x, 2, 1, 0, 1, 2);
        E.of(11, "PAYING: it is last already");
        Check.club(x, "like 9 m<2&b=2;like 9 m=2&b=1;like 5 m=2&b=0;like 9 m=3&b=2");
        row(x, 2, 0, 1, 0, 2);
        row(x, 2, 1, 1, 0, 2);
        E.of(11, "PAYING: one book, two books");
        x.had(0, true);
        row(x, 2, 1, 1, 2);
        x.had(1, true);
        row(x, 2, 1, 2);
        E.of(11, "PAYING: alone, its own is first of the most");
        ClubReads y = Check.with("like 9 b=1");
        y.member(1, 0);
        Check.addBooks(y, 3);
        row(y, 0, 1, 1, 0, 2);
    }

    private static void payingCounts() {
        E.of(11, "PAYING: of the most members HERE, those AWAY too");
        ClubReads x = Check.with("like 9 b=1&m<2");
        x.member(6, 0);
        x.member(6, 0);
        x.member(1, 0);
        Check.addBooks(x, 3);
        E.due(x, FEWER, "order", 0, 1, 0);
        row(x, 2, 1, 0, 2, 1);
        E.of(11, "PAYING: of the most members HERE, not of who is gone");
        ClubReads y = Check.with("like 9 b=1&m<2;loath 99 b=2&m<2;come 0");
        y.member(0, 0);
        y.member(0, 0);
        y.member(1, 0);
        Check.addBooks(y, 4);
        row(y, 2, 1, 0, 2, 3, 1);
        y.month(2);
        E.due(y, 4, "told", 2);
        row(y, 2, 1, 0, 1, 3);
    }

    private static void following() {
        E.of(11, "FOLLOWING: v is another one; else as PAYING");
        ClubReads x = Check.with("like 9 b=1&m>0;like 5 b=2&m=0");
        x.member(4, 0);
        x.member(4, 3);
        x.member(4, 9);
        Check.addBooks(x, 3);
        row(x, 0, 0, 2, 0, 1);
        row(x, 0, 1, 2, 0, 1);
        E.of(11, "FOLLOWING: there is no such member; else as PAYING");
        row(x, 1, 1, 1, 0, 2);
        row(x, 2, 1, 1, 0, 2);
        Check.club(x, "like 9 b=1&m=1;like 9 b=2&m>1");
        row(x, 1, 0, 1, 0, 2);
        row(x, 1, 1, 1, 2, 0);
        E.of(11, "FOLLOWING: the member v, as soon as it is there");
        E.due(x, 3, "member", 0, 0);
        row(x, 1, 1, 2, 0, 1);
        E.of(11, "FOLLOWING: if that is HERE; else as PAYING");
        ClubReads y = Check.with("like 9 b=1&m=0;like 9 b=2&m=1;loath 99 b=3&m=1;come 0");
        y.member(4, 1);
        y.member(0, 0);
        y.member(0, 0);
        y.member(0, 0);
        Check.addBooks(y, 4);
        row(y, 0, 1, 2, 0, 1, 3);
        y.month(3);
        E.due(y, 0, "of", 1, 3);
        row(y, 0, 0, 1, 0, 2);
        row(y, 0, 1, 1, 2, 0);
    }

    private static void followingOrder() {
        E.of(11, "FOLLOWING: the ORDER of v, whatever v says");
        ClubReads x = Check.with("like 9 b=2&m=0;like 9 b=1&m>3");
        x.member(6, 0);
        x.member(5, 0);
        x.member(4, 0);
        x.member(4, 1);
        x.member(4, 2);
        x.member(4, 4);
        Check.addBooks(x, 3);
        E.due(x, FEWER, "order", 0, 1, 0);
        row(x, 2, 1, 2, 0, 1);
        row(x, 1, 1, 1, 2, 0);
        row(x, 3, 1, 0, 1, 2);
        row(x, 4, 1, 0, 1, 2);
        row(x, 5, 1, 1, 0, 2);
    }

    private static void striking() {
        E.of(11, "STRIKING: book v comes last, if it is OPEN");
        ClubReads x = new ClubReads();
        for (int v = 0; v < 4; v++) {
            x.member(5, v);
        }
        x.member(5, 9);
        row(x, 0, 1);
        Check.addBooks(x, 1);
        row(x, 0, 1, 0);
        row(x, 1, 1, 0);
        Check.addBooks(x, 2);
        row(x, 0, 1, 1, 2, 0);
        row(x, 1, 1, 0, 2, 1);
        row(x, 2, 1, 0, 1, 2);
        row(x, 3, 1, 0, 1, 2);
        row(x, 4, 1, 0, 1, 2);
        Check.addBooks(x, 3);
        row(x, 3, 1, 0, 1, 2, 4, 5, 3);
        row(x, 4, 1, 0, 1, 2, 3, 4, 5);
        x.had(0, true);
        row(x, 0, 1, 1, 2, 3, 4, 5);
        row(x, 1, 1, 2, 3, 4, 5, 1);
        x.had(0, false);
        row(x, 0, 0, 0, 1, 2, 3, 4, 5);
        row(x, 0, 1, 1, 2, 3, 4, 5, 0);
    }

    private static void away() {
        E.of(11, "AWAY: nothing, if MONTH is a multiple of (v and 2, together)");
        for (int half = 0; half < 2; half++) {
            ClubReads x = Check.with("like 99 m<9;come 0");
            for (int v = 0; v < 5; v++) {
                x.member(6, half * 5 + v);
            }
            Check.addBooks(x, 2);
            for (int month = 0; month <= 22; month++) {
                for (int v = 0; v < 5; v++) {
                    boolean off = month % (half * 5 + v + 2) == 0;
                    E.due(x, off ? FEWER : 0, "order", v, 1, 0);
                    E.due(x, 0, "order", v, 0, 0);
                }
                x.month(1);
                x.had(1, false);
            }
        }
    }

    private static void chosenRefused() {
        E.of(12, "NONE: way, what");
        for (Scene scene : Scene.values()) {
            for (int way : Edge.outside(0, 5)) {
                E.leaves(scene, NONE, "chosen", way, 0);
            }
            for (int what : Edge.outside(0, 1)) {
                E.leaves(scene, NONE, "chosen", 0, what);
                E.leaves(scene, NONE, "chosen", 5, what);
            }
        }
    }

    private static void chosenOfFew() {
        E.of(12, "-5: no book is OPEN");
        for (int way = 0; way < 6; way++) {
            E.leaves(Scene.READ, FEWER, "chosen", way, 0);
            E.leaves(Scene.READ, FEWER, "chosen", way, 1);
        }
        E.of(12, "one book is OPEN");
        ClubReads x = Scene.FULL.make();
        for (int b = 0; b < 6; b++) {
            x.had(b, b != 3);
        }
        for (int way = 0; way < 6; way++) {
            E.due(x, 3, "chosen", way, 0);
            E.due(x, 3, "chosen", way, 1);
        }
    }

    /** Who alone is there says nothing. */
    private static void noOrders() {
        E.of(12, "the least number also if there are no orders");
        ClubReads x = Check.with("like 9 b=3");
        x.member(6, 0);
        Check.addBooks(x, 4);
        x.had(0, true);
        for (int way = 0; way < 5; way++) {
            E.due(x, 1, "chosen", way, 0);
        }
        E.due(x, 3, "chosen", 5, 0);
        E.due(x, 1, "chosen", 0, 1);
        for (int way = 1; way < 6; way++) {
            E.due(x, 3, "chosen", way, 1);
        }
    }

    private static void nobodyHere() {
        E.of(12, "the least OPEN one, if nobody is HERE");
        for (int way = 0; way < 6; way++) {
            E.leaves(Scene.GONE, 0, "chosen", way, 0);
            E.leaves(Scene.GONE, 0, "chosen", way, 1);
        }
        ClubReads x = Scene.GONE.make();
        x.had(0, true);
        for (int way = 0; way < 6; way++) {
            E.due(x, 2, "chosen", way, 0);
            E.due(x, 2, "chosen", way, 1);
        }
    }

    private static void hands() {
        E.of(12, "HANDS: the first two of its order (one, if there is one)");
        // One member with the order 3 2 1 0.
        ClubReads x = Check.plain("like 9 b>0;like 9 b>1;like 9 b>2", 1, 4);
        E.due(x, 2, "chosen", 0, 0);
        x.had(3, true);
        E.due(x, 1, "chosen", 0, 0);
        x.had(2, true);
        E.due(x, 0, "chosen", 0, 0);
        E.due(x, 1, "chosen", 1, 0);
        x.had(0, true);
        E.due(x, 1, "chosen", 0, 0);
        E.of(12, "HANDS: the most, of several the least");
        // 0 1 2, 1 2 0: two hands for 1; then 2 1 0, 2 0 1: hands 2 3 3.
        ClubReads y = Check.plain("like 9 b=1&m=1;like 5 b=2&m=1;like 9 b=2&m>1;like 5 b=1&m=2", 2, 3);
        E.due(y, 1, "chosen", 0, 0);
        y.member(0, 0);
        y.member(0, 0);
        E.due(y, 1, "chosen", 0, 0);
        y.member(0, 0);
        E.due(y, 2, "chosen", 0, 0);
    }

    private static void points() {
        E.of(12, "POINTS: as many as there are books behind it; of several the least");
        // 1 0 2 and 0 1 2: three points each.
        ClubReads x = Check.plain("like 9 b=1&m=0", 2, 3);
        E.due(x, 0, "chosen", 1, 0);
        // 2 0 1 then: 4 3 2.
        Check.club(x, "like 9 b=1&m=0;like 9 b=2&m=2");
        x.member(0, 0);
        E.due(x, 0, "chosen", 1, 0);
        // 1 2 0 three times and 0 1 2 twice: 4 8 3.
        ClubReads y = Check.plain("like 9 b=1&m<3;like 5 b=2&m<3", 5, 3);
        E.due(y, 1, "chosen", 1, 0);
        // 0 1 2 twice, 1 2 0 once: 4 4 1.
        ClubReads z = Check.plain("like 9 b=1&m=2;like 5 b=2&m=2", 3, 3);
        E.due(z, 0, "chosen", 1, 0);
        Check.club(z, "like 9 b=1&m>0;like 5 b=2&m>0");
        E.due(z, 1, "chosen", 1, 0);
    }

    private static void firsts() {
        E.of(12, "FIRSTS: first in the most orders; of several the least");
        ClubReads x = Check.plain("like 9 b=2&m<2;like 9 b=1&m>1", 4, 3);
        E.due(x, 1, "chosen", 2, 0);
        Check.club(x, "like 9 b=2&m<3;like 9 b=1&m>2");
        E.due(x, 2, "chosen", 2, 0);
        Check.club(x, "like 9 b=2&m=0;like 9 b=1&m=1");
        E.due(x, 0, "chosen", 2, 0);
    }

    private static void rounds() {
        E.of(12, "ROUNDS: neither is ahead in more orders: the least, also if FIRSTS has the other");
        // 2 0 1 twice, 0 1 2, 1 0 2.
        ClubReads x = Check.plain("like 9 m<2&b=2;like 9 m>3&b=2;like 9 m=3&b=1", 4, 3);
        E.due(x, 2, "chosen", 2, 0);
        E.due(x, 0, "chosen", 3, 0);
        E.of(12, "ROUNDS: ahead by one order");
        x.member(0, 0);
        E.due(x, 2, "chosen", 3, 0);
        E.of(12, "ROUNDS: of all others the least of several");
        // 2 1 0 twice, 0 1 2, 1 2 0: 2 is ahead of 0 by 3 to 1, but even with 1, which would be the least.
        ClubReads w = Check.plain("like 9 m<2&b=2;like 5 m<2&b=1;like 9 m=3&b=1;like 5 m=3&b=2", 4, 3);
        E.due(w, 2, "chosen", 3, 0);
        E.of(12, "ROUNDS: no other one is first in any order");
        ClubReads y = Check.plain("like 9 b=2", 2, 4);
        E.due(y, 2, "chosen", 3, 0);
        y.had(0, true);
        y.had(1, true);
        E.due(y, 2, "chosen", 3, 0);
        y.had(2, true);
        E.due(y, 3, "chosen", 3, 0);
        E.of(12, "ROUNDS: the second wins");
        // 0 2 1 twice; 1 2 0; 2 1 0 twice: firsts 2 1 2; 2 is ahead of 0 by 3 to 2.
        ClubReads z = Check.plain("like 9 m<2&b=0;like 5 m<2&b=2;like 9 m=2&b=1;like 5 m>1&b=2;like 3 m>2&b=1", 5, 3);
        E.due(z, 0, "chosen", 2, 0);
        E.due(z, 2, "chosen", 3, 0);
    }

    private static void pairs() {
        E.of(12, "PAIRS: ahead of each other one in more orders than behind it");
        // 1 0 2 three times, 0 2 1 twice: 1 is ahead by 3 to 2, 0 has 7 points to 6.
        String ahead = "like 9 m<3&b=1;like 9 m>2&b=0;like 5 m>2&b=2";
        E.due(Check.plain(ahead, 5, 3), 1, "chosen", 4, 0);
        E.due(Check.plain(ahead, 5, 3), 0, "chosen", 1, 0);
        // 0 1 2 three times, 1 2 0 twice: 0 is ahead by 3 to 2, 1 has 7 points to 6.
        String first = "like 9 m>2&b=1;like 5 m>2&b=2";
        E.due(Check.plain(first, 5, 3), 0, "chosen", 4, 0);
        E.due(Check.plain(first, 5, 3), 1, "chosen", 1, 0);
        E.of(12, "PAIRS: as often ahead as behind is not ahead; without one as POINTS");
        // The sixth likes 0 2 1 as well: 3 to 3.
        E.due(Check.plain(ahead, 6, 3), 0, "chosen", 4, 0);
        // 0 1 2 and 1 2 0: 0 is even with both, 1 has 3 points to 2.
        E.due(Check.plain("like 9 m=1&b=1;like 5 m=1&b=2", 2, 3), 1, "chosen", 4, 0);
        E.of(12, "PAIRS: ahead of all but one: as POINTS");
        // 0 1 2 3, 1 2 0 3, 2 0 1 3: a ring ahead of 3.
        ClubReads ring = Check.plain("like 9 m=1&b=1;like 5 m=1&b=2;like 3 m>0&b=0;like 9 m=2&b=2", 3, 4);
        E.due(ring, 2, "order", 1, 0, 1);
        E.due(ring, 0, "order", 2, 0, 1);
        E.due(ring, 0, "chosen", 4, 0);
        ring.had(0, true);
        E.due(ring, 1, "chosen", 4, 0);
        ring.had(1, true);
        E.due(ring, 2, "chosen", 4, 0);
        E.of(12, "PAIRS: the last book is ahead of each other");
        E.due(Check.plain("like 9 b=5", 1, 6), 5, "chosen", 4, 0);
    }

    private static void turns() {
        E.of(12, "TURNS: the place that is MONTH modulo how many they are");
        ClubReads x = Check.plain("like 9 m=0&b=0;like 9 m=1&b=1;like 9 m=2&b=2;come 0", 3, 4);
        for (int month = 0; month < 8; month++) {
            E.due(x, month % 3, "chosen", 5, 0);
            E.due(x, month % 3, "chosen", 5, 1);
            x.month(3);
            x.had(3, false);
        }
        E.of(12, "TURNS: of members HERE, by numbers");
        // 1 is gone behind the month with book 3, so that 0 and 2 take turns.
        ClubReads y = Check.plain("like 9 m=0&b=0;like 9 m=1&b=1;like 9 m=2&b=2;loath 51 m=1&b=3;come 0", 3, 4);
        y.month(3);
        y.had(3, false);
        E.due(y, 5, "told", 2);
        E.due(y, 2, "chosen", 5, 0);
        y.month(3);
        y.had(3, false);
        E.due(y, 0, "chosen", 5, 0);
        y.member(0, 0);
        E.due(y, 0, "chosen", 5, 0);
        y.month(3);
        E.due(y, 0, "chosen", 5, 0);
        E.due(y, 3, "told", 0);
        E.due(Scene.SPENT.make(), 0, "chosen", 5, 0);
    }

    private static void turnsOfWhoSaysNothing() {
        E.of(12, "TURNS: the first of what it says (of its ORDER, if it says nothing)");
        ClubReads x = Check.with("like 9 m=0&b=1;like 9 m=1&b=2;come 0");
        x.member(6, 0);
        x.member(5, 2);
        Check.addBooks(x, 3);
        E.due(x, FEWER, "order", 0, 1, 0);
        E.due(x, 1, "chosen", 5, 0);
        E.due(x, 1, "chosen", 5, 1);
        x.month(1);
        E.due(x, 0, "chosen", 5, 0);
        E.due(x, 2, "chosen", 5, 1);
    }

    private static void trueLikes() {
        E.of(12, "TRUE: by ORDERS of all HERE, also of who says nothing");
        // 0 strikes 2, which it likes most; 1 and 2 are AWAY and like 1 most.
        ClubReads x = Check.with("like 9 m=0&b=2;like 9 m>0&b=1");
        x.member(5, 2);
        x.member(6, 0);
        x.member(6, 0);
        Check.addBooks(x, 3);
        int[] said = {0, 0, 0, 0, 0, 0};
        int[] likes = {0, 1, 1, 1, 1, 2};
        for (int way = 0; way < 6; way++) {
            E.due(x, said[way], "chosen", way, 0);
            E.due(x, likes[way], "chosen", way, 1);
            E.due(x, said[way], "chosen", way, 0);
        }
        E.of(12, "TRUE: not of who is gone");
        ClubReads y = Check.plain("like 9 m>0&b=1;loath 51 m>0&b=2;come 0", 3, 3);
        E.due(y, 1, "chosen", 2, 1);
        y.month(2);
        E.due(y, 1, "told", 2);
        E.due(y, 0, "chosen", 2, 1);
    }

    private static void aloneRefused() {
        E.of(13, "NONE");
        for (Scene scene : Scene.values()) {
            for (int way : Edge.outside(0, 5)) {
                E.leaves(scene, NONE, "alone", way);
            }
        }
        E.of(13, "-9: more than 5 books are OPEN");
        for (int way = 0; way < 6; way++) {
            E.leaves(Scene.FULL, MANY, "alone", way);
        }
        ClubReads x = Check.plain("like 9 b=0", 1, 5);
        E.due(x, 1, "alone", 5);
        Check.addBooks(x, 1);
        E.due(x, MANY, "alone", 5);
        x.had(0, true);
        E.due(x, 1, "alone", 5);
        E.of(13, "-9 also if nobody is HERE");
        ClubReads y = Check.plain("loath 99 m=0;come 0", 1, 6);
        y.month(0);
        E.due(y, 0, "alone", 5);
        y.had(0, false);
        E.due(y, MANY, "alone", 5);
    }

    private static void aloneOfFew() {
        E.of(13, "no book is OPEN, one is: no other would be CHOSEN");
        for (int way = 0; way < 6; way++) {
            E.leaves(Scene.READ, 0, "alone", way);
            ClubReads x = Scene.READ.make();
            x.had(1, false);
            E.due(x, 0, "alone", way);
        }
        E.of(13, "nobody is HERE");
        for (int way = 0; way < 6; way++) {
            E.leaves(Scene.GONE, 0, "alone", way);
        }
        E.of(13, "two books are OPEN: by HANDS nobody, by others the only member");
        ClubReads x = Check.plain("like 9 b=1", 1, 2);
        int[] due = {0, 1, 1, 1, 1, 1};
        for (int way = 0; way < 6; way++) {
            E.due(x, due[way], "alone", way);
        }
    }

    private static void aloneWho() {
        E.of(13, "members HERE, as bits: who says nothing too, who is gone not");
        ClubReads x = Check.with("loath 51 m=1;come 0");
        x.member(6, 0);
        x.member(0, 0);
        x.member(6, 1);
        Check.addBooks(x, 4);
        // In month 0 only 1 says anything: 0 first. An order more makes 1:1, and the least is 0 still.
        E.due(x, 2, "alone", 2);
        x.month(3);
        E.due(x, 5, "told", 2);
        // Now 0 and 2 say 0 first.
        E.due(x, 0, "alone", 2);
        E.due(x, 4, "alone", 5);
        x.had(3, false);
        x.month(3);
        // In month 2 only 2 says anything.
        E.due(x, FEWER, "order", 0, 1, 0);
        E.due(x, 4, "alone", 2);
        E.due(x, 1, "alone", 5);
        E.of(13, "some order among all: one that begins with the greatest book");
        // Two want 4 and one 0: a single one more makes 4 be CHOSEN by firsts.
        ClubReads y = Check.with("like 9 m<2&b=4;like 9 m=4&b=3");
        for (int m = 0; m < 4; m++) {
            y.member(0, 0);
        }
        y.member(6, 0);
        Check.addBooks(y, 5);
        E.due(y, 0, "chosen", 2, 0);
        E.due(y, 28, "alone", 2);
    }

    private static void gainRefused() {
        E.of(14, "NONE: member, way");
        for (int m : Edge.outside(0, 2)) {
            E.leaves(Scene.SOME, NONE, "gain", m, 0);
            E.leaves(Scene.GONE, NONE, "gain", m, 0);
        }
        for (int m : Edge.outside(0, 5)) {
            E.leaves(Scene.FULL, NONE, "gain", m, 0);
        }
        for (int way : Edge.outside(0, 5)) {
            E.leaves(Scene.SOME, NONE, "gain", 0, way);
            E.leaves(Scene.FULL, NONE, "gain", 0, way);
            E.leaves(Scene.GONE, NONE, "gain", 0, way);
            E.leaves(Scene.READ, NONE, "gain", 0, way);
        }
        E.of(14, "STATE: it is gone");
        for (int way = 0; way < 6; way++) {
            for (int m = 0; m < 3; m++) {
                E.leaves(Scene.GONE, STATE, "gain", m, way);
            }
        }
        E.of(14, "-9");
        for (int way = 0; way < 6; way++) {
            E.leaves(Scene.FULL, MANY, "gain", 0, way);
            E.leaves(Scene.FULL, MANY, "gain", 5, way);
        }
        E.of(14, "STATE is told ahead of -9 and -5");
        ClubReads x = Check.plain("loath 99 m=0;come 0", 2, 6);
        x.month(0);
        x.had(0, false);
        E.due(x, STATE, "gain", 0, 0);
        E.due(x, MANY, "gain", 1, 0);
        for (int b = 0; b < 6; b++) {
            x.had(b, true);
        }
        E.due(x, STATE, "gain", 0, 0);
        E.due(x, FEWER, "gain", 1, 0);
    }

    private static void gainOfFew() {
        E.of(14, "-5: no book is OPEN, one is");
        for (int way = 0; way < 6; way++) {
            E.leaves(Scene.READ, FEWER, "gain", 1, way);
            ClubReads x = Scene.READ.make();
            x.had(0, false);
            E.due(x, FEWER, "gain", 1, way);
        }
        E.of(14, "5 at most; else -9");
        // 0 strikes 4, which it likes most.
        ClubReads y = Check.with("like 9 b=4");
        y.member(5, 4);
        Check.addBooks(y, 5);
        E.due(y, 4, "gain", 0, 5);
        Check.addBooks(y, 1);
        E.due(y, MANY, "gain", 0, 5);
        y.had(0, true);
        E.due(y, 4, "gain", 0, 5);
    }

    private static void gainMore() {
        E.of(14, "more LIKE: as much is not more");
        ClubReads x = Check.plain("like 9 b<2", 1, 3);
        E.due(x, 1, "alone", 5);
        E.due(x, FEWER, "gain", 0, 5);
        E.of(14, "more LIKE: by 1");
        ClubReads y = Check.with("like 1 b=1");
        y.member(5, 1);
        Check.addBooks(y, 3);
        E.due(y, 0, "chosen", 5, 0);
        E.due(y, 1, "gain", 0, 5);
        E.of(14, "the first such order, as a row, not the one that gains most");
        ClubReads z = Check.with("like 10 m=0&b=1;like 20 m=0&b=2");
        z.member(4, 1);
        z.member(0, 0);
        Check.addBooks(z, 3);
        E.due(z, 0, "chosen", 5, 0);
        E.due(z, 1, "gain", 0, 5);
        z.had(1, true);
        E.due(z, 2, "gain", 0, 5);
        E.of(14, "some order: the last row of all, 4 3 2 1 0, alone makes 4 be CHOSEN");
        // 0 says 0 1 2 4 3; with the points of 1 they are 4 4 4 3 5.
        ClubReads v = Check.with("loath 9 m=0&b>2;loath 5 m=0&b=3;like 9 m=1&b=4");
        v.member(0, 0);
        v.member(6, 0);
        Check.addBooks(v, 5);
        E.due(v, 0, "chosen", 1, 0);
        E.due(v, 4, "gain", 1, 1);
        E.of(14, "who says nothing may gain");
        ClubReads w = Check.with("like 9 m=0&b=1;like 9 m=1&b=2");
        w.member(6, 0);
        w.member(6, 0);
        Check.addBooks(w, 3);
        E.due(w, 1, "gain", 0, 2);
        E.due(w, 2, "gain", 1, 2);
        E.due(w, FEWER, "gain", 0, 5);
        E.due(w, 2, "order", 1, 0, 0);
        E.due(w, FEWER, "gain", 1, 5);
    }

    private static void askedBefore() {
        E.of(12, "what was asked under another CLUB does not count");
        for (int turn = 0; turn < 2; turn++) {
            ClubReads x = Check.plain("like 9 b=" + (turn == 0 ? 2 : 0), 4, 3);
            for (int i = 0; i < 10; i++) {
                for (int way = 0; way < 6; way++) {
                    x.chosen(way, i % 2);
                }
            }
            int book = turn == 0 ? 0 : 2;
            Check.club(x, "like 9 b=" + book + "&m<3;like 9 b=" + (2 - book) + "&m=3");
            for (int way = 1; way < 6; way++) {
                E.due(x, book, "chosen", way, 0);
                E.due(x, book, "chosen", way, 1);
            }
        }
    }

    private static void asking() {
        E.of(12, "what is asked changes nothing");
        for (Scene scene : Scene.values()) {
            for (int part = 0; part < Look.PARTS; part++) {
                ClubReads x = scene.make();
                for (int way = 0; way < 6; way++) {
                    x.alone(way);
                    x.gain(way, 5 - way);
                    x.chosen(way, way % 2);
                    x.order(way, 1, way);
                    x.like(way, way);
                }
                E.untouched(scene, part, x, "what is asked of ways");
            }
        }
    }

    private EdgeWayTest() {
    }
}
