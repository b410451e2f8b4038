/** Edges of promises 23 to 30: hands, acts, the image. */
public final class EdgeActTest {
    private static final Edge E = new Edge("EdgeActTest");
    private static final int NONE = Edge.NONE, BAD = Edge.BAD, STATE = Edge.STATE, FULL = Edge.FULL;
    private static final int FEWER = Edge.FEWER, OTHER = Edge.OTHER;

    public static void main(String[] args) {
        handRefused();
        hand();
        handNone();
        lookedOfNone();
        lookedNumbers();
        lookedFirst();
        lookedWho();
        actRefused();
        actRefusedLeaves();
        actWraps();
        actOfKinds();
        trace();
        traceOfLatest();
        asRefused();
        as();
        image();
        undoRefused();
        undo();
        undoTrace();
        undoAll();
        count();
        asking();
        E.end(23, 30);
    }

    private static void handRefused() {
        E.of(23, "A number (0 .. 12), or -1; BAD");
        for (int n : Edge.outside(-1, 12)) {
            E.leaves(Scene.EMPTY, BAD, "hand", n);
            E.leaves(Scene.SOME, BAD, "hand", n);
        }
        E.of(23, "FULL: 6");
        for (int n = 0; n <= 12; n++) {
            E.leaves(Scene.FULL, FULL, "hand", n);
        }
        E.of(23, "BAD is told ahead of FULL");
        for (int n : Edge.outside(-1, 12)) {
            E.leaves(Scene.FULL, BAD, "hand", n);
        }
    }

    private static void hand() {
        E.of(23, "how many there are, 6 at most");
        for (int n = 0; n <= 12; n++) {
            ClubReads x = new ClubReads();
            for (int i = 1; i <= 6; i++) {
                E.due(x, i, "hand", n);
                E.due(x, i, "count", 3);
            }
            E.due(x, FULL, "hand", n);
            E.due(x, 6, "count", 3);
        }
    }

    private static void handNone() {
        E.of(23, "-1: none then, 0");
        E.leaves(Scene.EMPTY, 0, "hand", -1);
        ClubReads x = Scene.FULL.make();
        E.due(x, 0, "hand", -1);
        E.due(x, 0, "count", 3);
        E.due(x, FEWER, "looked");
        E.due(x, 0, "hand", -1);
        for (int i = 1; i <= 6; i++) {
            E.due(x, i, "hand", 0);
        }
        E.due(x, FULL, "hand", 0);
        E.of(23, "-1: none of the old ones counts again");
        ClubReads y = Check.plain("come 5", 2, 2);
        y.hand(2);
        y.hand(7);
        E.due(y, 1, "looked");
        E.due(y, 0, "hand", -1);
        E.due(y, 1, "hand", 2);
        E.due(y, FEWER, "looked");
    }

    private static void lookedOfNone() {
        E.of(24, "-5: none is told, no book is OPEN, no book is there");
        E.leaves(Scene.EMPTY, FEWER, "looked");
        E.leaves(Scene.FIVE, FEWER, "looked");
        ClubReads x = new ClubReads();
        x.hand(3);
        E.due(x, FEWER, "looked");
        ClubReads y = Scene.READ.make();
        y.hand(9);
        y.hand(9);
        E.due(y, FEWER, "looked");
        y.had(1, false);
        E.due(y, 1, "looked");
        y.had(1, true);
        y.had(2, false);
        E.due(y, FEWER, "looked");
    }

    private static void lookedNumbers() {
        E.of(24, "has another number of hands by WAY 0");
        // Six members with the order 0 1 2: 6 6 0.
        int[] hands = {6, 6, 0};
        for (int book = 0; book < 3; book++) {
            for (int n = 0; n <= 12; n++) {
                ClubReads x = Check.plain("come 5", 6, 3);
                for (int b = 0; b < 3; b++) {
                    x.hand(b == book ? n : hands[b]);
                }
                E.due(x, n == hands[book] ? FEWER : book, "looked");
            }
        }
        E.of(24, "hands to the first two (to one, if there is one)");
        ClubReads x = Check.plain("like 9 b=2", 4, 3);
        x.hand(4);
        x.hand(0);
        x.hand(4);
        E.due(x, FEWER, "looked");
        x.had(0, true);
        E.due(x, 1, "looked");
        x.had(1, true);
        E.due(x, FEWER, "looked");
        x.had(2, true);
        E.due(x, FEWER, "looked");
    }

    private static void lookedFirst() {
        E.of(24, "the first OPEN book that is told");
        ClubReads x = Check.plain("come 5", 2, 4);
        for (int told = 0; told < 4; told++) {
            x.hand(told < 2 ? 2 : 0);
            E.due(x, FEWER, "looked");
        }
        x.hand(9);
        x.hand(9);
        E.due(x, FEWER, "looked");
        Check.addBooks(x, 2);
        E.due(x, 4, "looked");
        x.had(4, true);
        E.due(x, 5, "looked");
        x.had(1, true);
        // Now the hands are 2 . 2 0 . 0.
        E.due(x, 2, "looked");
        ClubReads y = Check.plain("come 5", 2, 3);
        y.hand(3);
        y.hand(3);
        y.hand(3);
        for (int b = 0; b < 3; b++) {
            E.due(y, b, "looked");
            y.had(b, true);
        }
        E.due(y, FEWER, "looked");
    }

    private static void lookedWho() {
        E.of(24, "hands of members HERE who say anything, by what they say");
        ClubReads x = Check.with("loath 51 m=1;come 0");
        x.member(6, 0);
        x.member(0, 0);
        x.member(5, 0);
        Check.addBooks(x, 4);
        // 1 says 0 1 2 3; 2 says 1 2 3 0.
        for (int n : new int[] {1, 2, 1, 0}) {
            x.hand(n);
        }
        E.due(x, FEWER, "looked");
        x.month(3);
        // 1 is gone; 0 says 0 1 2, 2 says 1 2 0.
        E.due(x, FEWER, "looked");
        x.had(3, false);
        x.month(3);
        // 0 is off.
        E.due(x, 0, "looked");
        ClubReads y = Scene.GONE.make();
        y.hand(0);
        y.hand(5);
        y.hand(0);
        E.due(y, FEWER, "looked");
        y.had(1, false);
        E.due(y, 1, "looked");
    }

    private static void actRefused() {
        E.of(25, "0, and no TRACE then: no such member, act");
        for (int m : Edge.outside(0, 2)) {
            refuse(Scene.SOME, m, 0);
            refuse(Scene.SOME, m, 2);
        }
        for (int act : Edge.outside(0, 2)) {
            refuse(Scene.SOME, 0, act);
            refuse(Scene.FULL, 5, act);
            refuse(Scene.EMPTY, 0, act);
        }
        for (int m : Edge.outside(0, 5)) {
            refuse(Scene.FULL, m, 1);
        }
    }

    private static void refuse(Scene scene, int m, int act) {
        ClubReads x = scene.make();
        E.due(x, 0, "act", m, act, 5);
        E.due(x, 0, "count", 5);
        for (int i = 0; i < 8; i++) {
            E.due(x, NONE, "trace", i);
        }
    }

    private static void actRefusedLeaves() {
        E.of(25, "no such member, act: nothing else changes");
        E.leaves(Scene.FIVE, 0, "act", 6, 0, 1);
        E.leaves(Scene.FIVE, 0, "act", 0, 3, 1);
        E.leaves(Scene.GONE, 0, "act", -1, 0, 1);
        E.leaves(Scene.READ, 0, "act", 0, -1, 1);
        for (int part = 0; part < Look.PARTS; part++) {
            ClubReads x = Scene.SOME.make();
            x.act(3, 0, 1);
            x.act(0, 3, 1);
            // The scene's own latest act.
            x.act(1, 2, 5);
            E.untouched(Scene.SOME, part, x, "acts that there are not, and one that there was");
        }
    }

    private static void actWraps() {
        E.of(25, "ints, wrapping");
        ClubReads x = new ClubReads();
        x.member(0, 9);
        x.member(1, 9);
        x.member(5, 9);
        x.member(3, 0);
        x.member(4, 0);
        E.due(x, Edge.MOST, "act", 0, 0, Edge.MOST);
        E.due(x, Edge.MOST - 8, "act", 0, 1, Edge.LEAST);
        E.due(x, -18, "act", 0, 2, Edge.LEAST);
        // MOST * 3 is MOST - 2.
        E.due(x, Edge.MOST - 1, "act", 1, 0, Edge.MOST);
        E.due(x, Edge.LEAST + 1, "act", 1, 0, Edge.LEAST);
        // MOST - 1 and 2 is LEAST; ^ 2; that less 9, negated, is LEAST and 7.
        E.due(x, Edge.LEAST + 2, "act", 2, 0, Edge.MOST - 1);
        E.due(x, Edge.LEAST + 7, "act", 2, 1, Edge.MOST - 1);
        E.due(x, Edge.LEAST + 2, "act", 3, 0, Edge.MOST);
        // (LEAST + 2) * 2 is 4; ^ 7.
        E.due(x, 3, "act", 3, 2, Edge.MOST);
        // (LEAST - 1) * 3 is MOST - 2, and 4, by 2 is 2; and 2 * 3 and 4.
        E.due(x, 2 + 10, "act", 4, 2, Edge.LEAST);
    }

    private static void bodies(ClubReads x, int m, int act, int want, int... bodies) {
        E.due(x, want, "act", m, act, 5);
        E.due(x, bodies.length, "count", 5);
        for (int i = 0; i < bodies.length; i++) {
            E.due(x, bodies[i], "trace", i);
        }
        E.due(x, NONE, "trace", bodies.length);
    }

    private static void actOfKinds() {
        E.of(25, "the body of its KIND, or of the next KIND above that has one; from the left on");
        ClubReads x = new ClubReads();
        for (int kind = 1; kind <= 6; kind++) {
            x.member(kind, 2);
        }
        bodies(x, 0, 0, 15, 11, 1);
        bodies(x, 0, 1, 13, 2, 11, 1);
        bodies(x, 0, 2, 26, 3, 2, 11, 1);
        bodies(x, 1, 0, 6, 1);
        bodies(x, 1, 1, -4, 21, 2, 1);
        bodies(x, 1, 2, -8, 3, 21, 2, 1);
        bodies(x, 2, 0, 7, 1);
        bodies(x, 2, 1, 5, 2, 1);
        bodies(x, 2, 2, 13, 31, 3, 2, 1);
        bodies(x, 3, 0, 18, 11, 1);
        bodies(x, 3, 1, 16, 2, 11, 1);
        bodies(x, 3, 2, 35, 41, 3, 2, 11, 1, 11, 1);
        bodies(x, 4, 0, 13, 51, 1);
        bodies(x, 4, 1, -11, 21, 2, 51, 1);
        bodies(x, 4, 2, -22, 3, 21, 2, 51, 1);
        bodies(x, 5, 0, 10, 1);
        bodies(x, 5, 1, 10, 61, 2, 1);
        bodies(x, 5, 2, 19, 31, 3, 61, 2, 1);
        E.of(25, "STRIKING: ^ i, the bits that both have go");
        E.due(x, 0, "act", 4, 0, 0);
        E.due(x, 3, "act", 4, 0, 3);
        E.due(x, -8, "act", 4, 0, -8);
        E.of(25, "who is gone acts as well, and nothing but THE TRACE changes");
        bodies(Scene.GONE.make(), 2, 1, 7, 2, 1);
        for (int part = 0; part < Look.PARTS; part++) {
            ClubReads y = Scene.SOME.make();
            for (int m = 0; m < 3; m++) {
                y.act(m, m, 9);
            }
            y.act(1, 2, 5);
            E.untouched(Scene.SOME, part, y, "acts");
        }
    }

    private static void trace() {
        E.of(26, "THE TRACE's i-th body. NONE");
        for (int i : Edge.outside(0, 3)) {
            E.leaves(Scene.SOME, NONE, "trace", i);
        }
        int[] due = {3, 21, 2, 1};
        for (int i = 0; i < 4; i++) {
            E.leaves(Scene.SOME, due[i], "trace", i);
        }
        for (int i : new int[] {Edge.LEAST, -1, 0, 1, 19, 20, 21, Edge.MOST}) {
            E.leaves(Scene.EMPTY, NONE, "trace", i);
            E.leaves(Scene.FIVE, NONE, "trace", i);
        }
        E.of(26, "the first 20 are kept: all of the longest, 7");
        ClubReads x = new ClubReads();
        x.member(4, 0);
        x.act(0, 2, 0);
        E.due(x, 7, "count", 5);
        E.due(x, 41, "trace", 0);
        E.due(x, 1, "trace", 6);
        for (int i : new int[] {7, 19, 20, 21}) {
            E.due(x, NONE, "trace", i);
        }
    }

    private static void traceOfLatest() {
        E.of(26, "of the latest act() alone");
        ClubReads x = new ClubReads();
        x.member(4, 0);
        x.act(0, 2, 0);
        x.act(0, 0, 0);
        E.due(x, 2, "count", 5);
        E.due(x, 11, "trace", 0);
        E.due(x, 1, "trace", 1);
        E.due(x, NONE, "trace", 2);
        for (int i = 0; i < 30; i++) {
            x.act(0, 2, i);
            E.due(x, 7, "count", 5);
        }
        E.due(x, 41, "trace", 0);
        x.act(0, 7, 0);
        E.due(x, NONE, "trace", 0);
    }

    private static void asRefused() {
        E.of(27, "NONE: member, k");
        for (int m : Edge.outside(0, 2)) {
            E.leaves(Scene.SOME, NONE, "as", m, 0);
            E.leaves(Scene.SOME, NONE, "as", m, 7);
        }
        for (int m : Edge.outside(0, 5)) {
            E.leaves(Scene.FULL, NONE, "as", m, 0);
        }
        for (int k : Edge.outside(0, 6)) {
            E.leaves(Scene.SOME, NONE, "as", 0, k);
            E.leaves(Scene.FULL, NONE, "as", 5, k);
        }
        E.leaves(Scene.EMPTY, NONE, "as", 0, 0);
    }

    private static void as() {
        E.of(27, "a KIND k, or one under that: its v; -6: it is of another KIND");
        int[] above = {0, 0, 0, 0, 1, 2, 3};
        for (int kind = 0; kind <= 6; kind++) {
            for (int v : new int[] {0, 9}) {
                ClubReads x = new ClubReads();
                x.member(kind, v);
                for (int k = 0; k <= 6; k++) {
                    boolean is = k == kind || k == above[kind] || k == 0;
                    E.due(x, is ? v : OTHER, "as", 0, k);
                }
            }
        }
        E.of(27, "of who is gone too");
        E.leaves(Scene.GONE, 0, "as", 2, 0);
        E.leaves(Scene.GONE, OTHER, "as", 2, 1);
    }

    private static void image() {
        E.of(28, "how many MEMBERS there are");
        ClubReads x = new ClubReads();
        for (int m = 0; m <= 6; m++) {
            E.due(x, m, "image");
            E.due(x, m, "undo");
            x.member(0, 0);
        }
        E.of(28, "who is gone is counted");
        E.due(Scene.GONE.make(), 3, "image");
        E.of(28, "taken: nothing else changes");
        E.leaves(Scene.FIVE, 6, "image");
        for (Scene scene : Scene.values()) {
            for (int part = 0; part < 2; part++) {
                ClubReads y = scene.make();
                y.image();
                E.untouched(scene, part, y, "image()");
            }
        }
        E.of(28, "taken anew: the one ahead of it is no more");
        ClubReads z = new ClubReads();
        z.image();
        z.member(0, 0);
        z.image();
        z.member(0, 0);
        E.due(z, 1, "undo");
        E.due(z, 1, "undo");
        E.due(z, 1, "count", 0);
    }

    private static void undoRefused() {
        E.of(29, "STATE: there is none");
        E.leaves(Scene.EMPTY, STATE, "undo");
        E.leaves(Scene.SPENT, STATE, "undo");
        E.leaves(Scene.GONE, STATE, "undo");
        E.leaves(Scene.READ, STATE, "undo");
    }

    private static void undo() {
        E.of(29, "All is as THE IMAGE: how many MEMBERS; so too if nothing has changed");
        E.leaves(Scene.FIVE, 6, "undo");
        E.of(29, "THE IMAGE of a new object");
        for (int part = 0; part < 2; part++) {
            ClubReads x = new ClubReads();
            x.image();
            Check.club(x, "like 9 m=0;come 0");
            x.member(5, 5);
            x.book(50, 5, 3, 0);
            x.hand(3);
            x.feed('c');
            x.month(0);
            E.due(x, 0, "undo");
            E.untouched(Scene.EMPTY, part, x, "undo()");
        }
        E.of(29, "THE IMAGE has THE TAPE's signs and the numbers of HANDS");
        ClubReads y = Check.plain("come 5", 2, 3);
        Check.feed(y, "come 8");
        y.hand(2);
        y.hand(2);
        y.hand(0);
        y.image();
        E.due(y, 1, "club");
        Check.feed(y, "loath 9 m=1;come 7");
        y.hand(-1);
        for (int n = 3; n < 9; n++) {
            y.hand(n);
        }
        E.due(y, 2, "undo");
        E.due(y, 6, "count", 4);
        E.due(y, 3, "count", 3);
        E.due(y, FEWER, "looked");
        E.due(y, 5, "told", 1);
        E.due(y, 1, "club");
        E.due(y, 8, "told", 1);
        E.of(29, "THE IMAGE stays: undo goes back to it again");
        ClubReads x = Scene.SOME.make();
        for (int i = 0; i < 3; i++) {
            E.due(x, 2, "undo");
            E.due(x, 2, "count", 0);
            E.due(x, 2, "member", 0, 0);
            E.due(x, 2, "book", 0, 0, 0, 2);
        }
    }

    private static void undoTrace() {
        E.of(29, "all but THE IMAGE and THE TRACE");
        ClubReads x = new ClubReads();
        x.member(0, 0);
        x.act(0, 0, 1);
        x.image();
        x.act(0, 2, 1);
        x.undo();
        E.due(x, 3, "count", 5);
        E.due(x, 3, "trace", 0);
        E.due(x, 1, "trace", 2);
        E.of(29, "THE TRACE stays, also of a member that there is not any more");
        x.member(4, 0);
        x.act(1, 2, 1);
        x.undo();
        E.due(x, 7, "count", 5);
        E.due(x, 41, "trace", 0);
    }

    private static void undoAll() {
        E.of(29, "All is as THE IMAGE, from each scene and whatever comes behind it");
        for (Scene scene : Scene.values()) {
            for (int part : new int[] {0, 1, 3}) {
                ClubReads x = scene.make();
                x.image();
                x.hand(-1);
                x.hand(1);
                Check.club(x, "loath 99 m<9;read 9 b=0;come 1");
                x.feed('l');
                x.member(5, 9);
                x.member(2, 8);
                x.book(77, 1, 1, 0);
                for (int b = 0; b < 6; b++) {
                    x.had(b, b % 2 == 0);
                }
                x.by(2);
                x.by(4);
                E.due(x, scene.make().count(0), "undo");
                E.untouched(scene, part, x, "changes and undo()");
            }
        }
    }

    private static void count() {
        E.of(30, "what 0 .. 5; NONE");
        for (Scene scene : Scene.values()) {
            for (int what : Edge.outside(0, 5)) {
                E.leaves(scene, NONE, "count", what);
            }
        }
        E.of(30, "none of each, some, as many as there can be");
        int[] some = {3, 3, 1, 2, 13, 4};
        int[] full = {6, 6, 5, 6, 100, 7};
        for (int what = 0; what <= 5; what++) {
            E.leaves(Scene.EMPTY, 0, "count", what);
            E.leaves(Scene.SOME, some[what], "count", what);
            E.leaves(Scene.FULL, full[what], "count", what);
        }
        E.of(30, "MEMBERS who are gone, BOOKS that are HAD count");
        E.leaves(Scene.GONE, 3, "count", 0);
        E.leaves(Scene.READ, 3, "count", 1);
    }

    private static void asking() {
        E.of(30, "what is asked changes nothing");
        for (Scene scene : Scene.values()) {
            for (int part = 0; part < Look.PARTS; part++) {
                ClubReads x = scene.make();
                for (int i = -1; i < 8; i++) {
                    x.looked();
                    x.trace(i);
                    x.as(i, i);
                    x.count(i);
                    x.told(i);
                    x.of(i, 2);
                    x.at(i, 4);
                }
                E.untouched(scene, part, x, "what is asked of hands and acts");
            }
        }
    }

    private EdgeActTest() {
    }
}
