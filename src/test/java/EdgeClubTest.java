import java.util.Set;

/** Edges of promises 1 to 9: clubs, members, books. */
public final class EdgeClubTest {
    private static final Edge E = new Edge("EdgeClubTest");
    private static final int NONE = Edge.NONE, BAD = Edge.BAD, FULL = Edge.FULL, FAR_NONE = Edge.FAR_NONE;

    public static void main(String[] args) {
        newObject();
        newObjectsAnswers();
        objectsApart();
        feed();
        feedFull();
        clubSize();
        clauses();
        blanks();
        numbers();
        expressions();
        open();
        faults();
        faultOfEachSign();
        clubHolds();
        faultLeavesNothing();
        clubFull();
        come();
        tests();
        joined();
        member();
        memberFull();
        newcomer();
        book();
        bookFull();
        newBook();
        of();
        at();
        told();
        had();
        E.end(1, 9);
    }

    private static void newObject() {
        E.of(1, "Nobody, no CLUB");
        ClubReads x = new ClubReads();
        for (int what = 0; what <= 5; what++) {
            E.due(x, 0, "count", what);
        }
        E.due(x, 0, "told", 0);
        E.due(x, 5, "told", 1);
        E.due(x, 0, "told", 2);
        E.due(x, 0, "told", 3);
        E.due(x, Edge.STATE, "undo");
        E.due(x, -10, "club");
    }

    private static void newObjectsAnswers() {
        E.of(1, "Nobody, no CLUB: no member 0, no book 0");
        E.leaves(Scene.EMPTY, FAR_NONE, "of", 0, 0);
        E.leaves(Scene.EMPTY, NONE, "at", 0, 0);
        E.leaves(Scene.EMPTY, NONE, "had", 0, 1);
        E.leaves(Scene.EMPTY, FAR_NONE, "like", 0, 0);
        E.leaves(Scene.EMPTY, NONE, "order", 0, 0, 0);
        E.leaves(Scene.EMPTY, NONE, "gain", 0, 0);
        E.leaves(Scene.EMPTY, NONE, "reads", 0, 0);
        E.leaves(Scene.EMPTY, NONE, "comes", 0, 0);
        E.leaves(Scene.EMPTY, Edge.NO, "enough", 0, 0, 0);
        E.leaves(Scene.EMPTY, NONE, "month", 0);
        E.leaves(Scene.EMPTY, FAR_NONE, "run", 0, 0, 10);
        E.leaves(Scene.EMPTY, 0, "act", 0, 0, 0);
        E.leaves(Scene.EMPTY, NONE, "trace", 0);
        E.leaves(Scene.EMPTY, NONE, "as", 0, 0);
        E.leaves(Scene.EMPTY, NONE, "book", 0, 0, 0, 0);
        E.leaves(Scene.EMPTY, 0, "best");
        E.leaves(Scene.EMPTY, Edge.FEWER, "looked");
        E.leaves(Scene.EMPTY, 0, "hand", -1);
        for (int k = 0; k < 5; k++) {
            E.leaves(Scene.EMPTY, Edge.FEWER, "row", k);
        }
        for (int way = 0; way < 6; way++) {
            E.leaves(Scene.EMPTY, Edge.FEWER, "chosen", way, 0);
            E.leaves(Scene.EMPTY, Edge.FEWER, "chosen", way, 1);
            E.leaves(Scene.EMPTY, 0, "alone", way);
            E.leaves(Scene.EMPTY, Edge.STATE, "by", way);
            for (int what = 0; what < 3; what++) {
                E.leaves(Scene.EMPTY, 0, "run", 6, way, what);
            }
        }
    }

    private static void objectsApart() {
        E.of(1, "A new object: nothing of another one");
        for (int part = 0; part < Look.PARTS; part++) {
            ClubReads x = new ClubReads();
            Scene.FULL.make().by(2);
            E.untouched(Scene.EMPTY, part, x, "calls of another object");
        }
    }

    private static void feed() {
        E.of(2, "A sign (0 .. 127)");
        for (int sign = 0; sign <= 127; sign++) {
            E.due(new ClubReads(), 1, "feed", sign);
        }
        for (int sign : Edge.outside(0, 127)) {
            E.leaves(Scene.EMPTY, BAD, "feed", sign);
            E.leaves(Scene.SOME, BAD, "feed", sign);
        }
        E.of(2, "comes behind THE TAPE's, also behind a refused one");
        ClubReads x = new ClubReads();
        String text = "come 7";
        for (int i = 0; i < text.length(); i++) {
            E.due(x, BAD, "feed", 128 + text.charAt(i));
            E.due(x, i + 1, "feed", text.charAt(i));
        }
        E.due(x, 0, "club");
        E.due(x, 7, "told", 1);
    }

    private static void feedFull() {
        E.of(2, "how many it has; FULL: 100 at most");
        ClubReads x = new ClubReads();
        for (int i = 1; i <= 100; i++) {
            E.due(x, i, "feed", Scene.LONGEST.charAt(i - 1));
        }
        E.due(x, FULL, "feed", ';');
        E.due(x, 100, "count", 4);
        E.due(x, 0, "club");
        E.due(x, 1, "feed", 'c');
        E.leaves(Scene.FULL, FULL, "feed", 0);
        E.leaves(Scene.FULL, FULL, "feed", 127);
        E.of(2, "BAD is told ahead of FULL");
        for (int sign : Edge.outside(0, 127)) {
            E.leaves(Scene.FULL, BAD, "feed", sign);
        }
    }

    private static void text(String text, int want) {
        E.due("club() of '" + text + "'", Check.club(new ClubReads(), text), want);
    }

    private static void clubSize() {
        E.of(3, "THE TAPE (bytes, 100 at most)");
        E.due("the signs of the longest", Scene.LONGEST.length(), 100);
        text(Scene.LONGEST, 0);
        text(Scene.LONGEST.substring(0, 99), -10 - 99);
        text(Scene.LONGEST.substring(0, 99) + "x", -10 - 99);
        text("like 1 m=10" + "|m=1".repeat(22) + ";", -10 - 100);
        text("like 1 m=10" + "|m=1".repeat(22) + "&", -10 - 100);
        text("like 1 m=10" + "|m=1".repeat(22) + "1", 0);
        E.of(3, "THE TAPE is empty: no CLUB goes on");
        text("", -10);
    }

    private static void clauses() {
        E.of(3, "CLAUSES, 10 at most, with ; between");
        String ten = "come 1" + ";come 1".repeat(8) + ";come 8";
        ClubReads x = new ClubReads();
        E.due("club() of ten", Check.club(x, ten), 0);
        E.due("the come of the tenth", x.told(1), 8);
        text(ten + ";", -10 - 69);
        text(ten + ";come 9", -10 - 69);
        text(ten + "x", -10 - 69);
        text("come 1" + ";come 1".repeat(8) + ";", -10 - 63);
        text("come 1", 0);
        text(";", -10);
        text(";come 1", -10);
        text("come 1;", -10 - 7);
        text("come 1;;come 1", -10 - 7);
        text("come 1,come 1", -10 - 6);
        text("come 1 ;come 1", -10 - 6);
        text("come 1; come 1", -10 - 7);
        // The tenth clause counts as the others do.
        ClubReads y = Check.with("like 1 m=0" + ";like 2 m=0".repeat(2) + ";come 0".repeat(6) + ";like 9 m=0");
        y.member(0, 0);
        y.book(0, 0, 0, 0);
        E.due(y, 50 + 1 + 4 + 9, "like", 0, 0);
    }

    private static void blanks() {
        E.of(3, "one blank ahead of each part behind the word");
        text("like1 m=1", -10 - 4);
        text("like  1 m=1", -10 - 5);
        text("like 1m=1", -10 - 6);
        text("like 1  m=1", -10 - 7);
        text(" like 1 m=1", -10);
        text("like 1 m=1 ", -10 - 10);
        text("like\t1 m=1", -10 - 4);
        text("like 1 m =1", -10 - 8);
        text("like 1 m= 1", -10 - 9);
        text("like 1 !(m=1)", 0);
        text("like 1 ! m=1", -10 - 8);
        text("like 1 ( m=1)", -10 - 8);
        text("like 1 (m=1 )", -10 - 11);
        text("like 1 m=1 &m=1", -10 - 10);
        text("like 1 m=1& m=1", -10 - 11);
        text("come5", -10 - 4);
        text("come  5", -10 - 5);
        text("come 5 ", -10 - 6);
        E.of(3, "the words");
        text("Like 1 m=1", -10);
        text("likes 1 m=1", -10 - 4);
        text("lik 1 m=1", -10 - 3);
        text("loathe 1 m=1", -10 - 5);
        text("loat 1 m=1", -10 - 4);
        text("reads 1 m=1", -10 - 4);
        text("rea 1 m=1", -10 - 3);
        text("comes 1", -10 - 4);
        text("com 1", -10 - 3);
        text("lo", -10 - 2);
        text("li", -10 - 2);
        text("la", -10 - 1);
    }

    private static void numbers() {
        E.of(3, "n 1 or 2 digits, no 0 ahead of another");
        for (int n = 0; n <= 99; n++) {
            ClubReads x = new ClubReads();
            E.due("club() of come " + n, Check.club(x, "come " + n), 0);
            E.due("its come", x.told(1), n);
        }
        text("come ", -10 - 5);
        text("come -1", -10 - 5);
        text("come +1", -10 - 5);
        text("come /", -10 - 5);
        text("come :", -10 - 5);
        text("come 00", -10 - 6);
        text("come 01", -10 - 6);
        text("come 09", -10 - 6);
        text("come 9/", -10 - 6);
        text("come 9:", -10 - 6);
        text("come 100", -10 - 7);
        text("come 990", -10 - 7);
        text("like 100 m=1", -10 - 7);
        text("like 01 m=1", -10 - 6);
        text("like  m=1", -10 - 5);
        E.of(3, "a number likewise");
        text("like 1 m=0", 0);
        text("like 1 m=9", 0);
        text("like 1 m=10", 0);
        text("like 1 m=99", 0);
        text("like 1 m=100", -10 - 11);
        text("like 1 m=00", -10 - 10);
        text("like 1 m=01", -10 - 10);
        text("like 1 m=", -10 - 9);
        text("like 1 m=-1", -10 - 9);
    }

    private static void expressions() {
        E.of(3, "E: T, or T|E. T: F, or F&T. F: !F, (E), or a TEST");
        text("like 1 ", -10 - 7);
        text("like 1", -10 - 6);
        text("like 1;come 1", -10 - 6);
        text("like 1 |m=1", -10 - 7);
        text("like 1 &m=1", -10 - 7);
        text("like 1 m=1|", -10 - 11);
        text("like 1 m=1&", -10 - 11);
        text("like 1 m=1||m=1", -10 - 11);
        text("like 1 m=1&|m=1", -10 - 11);
        text("like 1 m=1m=1", -10 - 10);
        text("like 1 !", -10 - 8);
        text("like 1 !&", -10 - 8);
        text("like 1 m=1!m=1", -10 - 10);
        text("like 1 ()", -10 - 8);
        text("like 1 (", -10 - 8);
        text("like 1 (m=1", -10 - 11);
        text("like 1 (m=1;come 1", -10 - 11);
        text("like 1 m=1)", -10 - 10);
        text("like 1 (m=1))", -10 - 12);
        text("like 1 (m=1)(m=1)", -10 - 12);
        text("like 1 (m=1)m=1", -10 - 12);
        E.of(3, "a TEST: m or k or b or p or o or s, one of < = >");
        String letters = "mkbpos";
        String relations = "<=>";
        for (char c = 0; c < 128; c++) {
            boolean letter = letters.indexOf(c) >= 0;
            boolean opens = c == '!' || c == '(';
            text("like 1 " + c + "=1", letter ? 0 : opens ? -10 - 8 : -10 - 7);
            text("like 1 m" + c + "1", relations.indexOf(c) >= 0 ? 0 : -10 - 8);
        }
        text("like 1 m", -10 - 8);
        text("like 1 m==1", -10 - 9);
        text("like 1 m<=1", -10 - 9);
        text("like 1 1=m", -10 - 7);
    }

    private static void open() {
        E.of(3, "At most 5 of ! and ( are open");
        String[] five = {"!!!!!", "(((((", "!(!(!", "(!(!(", "!!(((", "((!!!"};
        for (String signs : five) {
            String ends = ")".repeat((int) signs.chars().filter(c -> c == '(').count());
            text("like 1 " + signs + "m=1" + ends, 0);
            text("like 1 " + signs + "!m=1" + ends, -10 - 12);
            text("like 1 " + signs + "(m=1)" + ends, -10 - 12);
            if (!ends.isEmpty()) {
                text("like 1 " + signs + "m=1" + ends.substring(1), -10 - 15 - ends.length() + 1);
            }
            text("like 1 " + signs + "m=1" + ends + ")", -10 - 15 - ends.length());
        }
        E.of(3, "open: a ( till its )");
        text("like 1 (((((m=1)))))&(((((m=1)))))", 0);
        text("like 1 ((((m=1)&(m=1))|(m=1)))", 0);
        text("like 1 ((((((m=1))))))", -10 - 12);
        text("like 1 (((((m=1))))&(((((m=1)))))", -10 - 24);
        E.of(3, "open: a ! till its F ends");
        text("like 1 !!!!!m=1&!!!!!m=1|!!!!!m=1", 0);
        text("like 1 (!!!!m=1&!!!!m=1)", 0);
        text("like 1 (!!!!m=1&!!!!!m=1)", -10 - 20);
        text("like 1 !(!!!m=1|!!!m=1)&!!!!!m=1", 0);
        text("like 1 !(!!!m=1|!!!!m=1)", -10 - 19);
        text("like 1 !(!!(m=1)&!!!m=1)", 0);
        text("like 1 !(((!m=1)&!m=1)&!!m=1)", 0);
    }

    private static void faults() {
        E.of(3, "FAULT: the place of the first byte with which no CLUB can go on");
        text("x", -10);
        text("come 1;x", -10 - 7);
        text("come 1;like 1 m=1;xxx", -10 - 18);
        text("come x;come y", -10 - 5);
        text((char) 0 + "ome 1", -10);
        text("come 1" + (char) 127, -10 - 6);
        E.of(3, "the size, if it ends too early");
        String whole = "like 12 !(m=1|(k<2)&b>3)";
        for (int size = 0; size < whole.length(); size++) {
            text(whole.substring(0, size), -10 - size);
        }
        text(whole, 0);
    }

    private static void faultOfEachSign() {
        E.of(3, "FAULT, for each sign behind each beginning, as the grammar has it");
        String whole = "like 12 !(m=1|k<20)&b>3;loath 0 ((!!(p=4)));read 9 s=10;come 4";
        for (int size = 0; size <= whole.length(); size++) {
            String begun = whole.substring(0, size);
            Set<Character> next = Grammar.next(begun);
            for (char sign = 0; sign < 128; sign++) {
                int fault = next.contains(sign) ? Grammar.fault(begun + sign) : size;
                text(begun + sign, fault < 0 ? 0 : -10 - fault);
            }
        }
    }

    private static void clubHolds() {
        E.of(3, "without one there are no CLAUSES");
        ClubReads x = new ClubReads();
        x.member(0, 0);
        x.member(0, 0);
        x.book(0, 0, 0, 0);
        E.due(x, 50, "like", 1, 0);
        E.due(x, 5, "reads", 1, 0);
        E.due(x, 5, "told", 1);
        E.of(3, "a CLUB, and holds: its number; the newest one holds");
        E.due("club()", Check.club(x, "like 9 m=1;read 2 m=1;come 7"), 0);
        E.due(x, 59, "like", 1, 0);
        E.due(x, 7, "reads", 1, 0);
        E.due(x, 7, "told", 1);
        E.due("club()", Check.club(x, "loath 10 m=1"), 1);
        E.due(x, 40, "like", 1, 0);
        E.due(x, 5, "reads", 1, 0);
        E.due(x, 5, "told", 1);
        E.of(3, "FAULT: the one that held holds; THE TAPE is empty then");
        E.due("club()", Check.club(x, "like 9 m=1;come 9;"), -10 - 18);
        E.due(x, 40, "like", 1, 0);
        E.due(x, 5, "told", 1);
        E.due(x, 2, "count", 2);
        E.due(x, 0, "count", 4);
        E.due(x, -10, "club");
        E.due(x, 40, "like", 1, 0);
        E.due("club()", Check.club(x, "come 0"), 2);
        E.due(x, 0, "told", 1);
        E.due(x, 50, "like", 1, 0);
        E.due(x, 0, "count", 4);
        E.due(x, 1, "feed", 'c');
    }

    private static void faultLeavesNothing() {
        E.of(3, "FAULT: nothing of that text is left in the next CLUB");
        ClubReads x = new ClubReads();
        x.member(0, 0);
        x.book(0, 0, 0, 0);
        String tests = "m=0" + "&m=0".repeat(20);
        for (int i = 0; i < 3; i++) {
            E.due("club()", Check.club(x, "come 9;like 9 " + tests + "x"), -10 - 97);
        }
        E.due("club()", Check.club(x, "like 7 m=1"), 0);
        E.due(x, 50, "like", 0, 0);
        E.due(x, 5, "told", 1);
        E.due("club()", Check.club(x, "like 9 m=0;like 9 m=0;"), -10 - 22);
        E.due("club()", Check.club(x, "like 1 m=1;like 2 m=0"), 1);
        E.due(x, 52, "like", 0, 0);
    }

    private static void clubFull() {
        E.of(3, "CLUBS are numbered from 0 on, 5 at most");
        ClubReads x = new ClubReads();
        for (int club = 0; club < 5; club++) {
            E.due("a fault takes no number", Check.club(x, "come"), -14);
            E.due("club()", Check.club(x, "come " + club), club);
            E.due(x, club + 1, "count", 2);
        }
        E.of(3, "FULL (THE TAPE stays)");
        E.due(x, FULL, "club");
        Check.feed(x, "come");
        E.due(x, FULL, "club");
        E.due(x, 4, "count", 4);
        Check.feed(x, " 9");
        E.due(x, FULL, "club");
        E.due(x, 6, "count", 4);
        E.due(x, 4, "told", 1);
        E.due(x, 5, "count", 2);
        E.due(x, 7, "feed", ';');
        E.leaves(Scene.FULL, FULL, "club");
        E.of(3, "behind undo there is room again, and THE TAPE that was");
        ClubReads y = Scene.FULL.make();
        E.due(y, 6, "undo");
        E.due(y, 100, "count", 4);
        E.due(y, 4, "club");
        E.due(y, 3, "told", 1);
        E.due(y, FULL, "club");
    }

    private static void come() {
        E.of(3, "come (5 without): the last n");
        ClubReads x = Check.with("come 3;like 1 m=0;come 8;loath 1 m=0");
        E.due(x, 8, "told", 1);
        Check.club(x, "come 9;come 0");
        E.due(x, 0, "told", 1);
        Check.club(x, "read 9 m=0");
        E.due(x, 5, "told", 1);
    }

    /** What each test says of member 2 (KIND 4) with book 3 (PAGES 69, MOOD 7, SORT 1). */
    private static void tests() {
        E.of(3, "TEST: m, k, b, p PAGES by 10 (cut), o, s; < = >");
        int[] facts = {2, 4, 3, 6, 7, 1};
        for (int which = 0; which < 6; which++) {
            int[] numbers = {0, facts[which] - 1, facts[which], facts[which] + 1, 10, 99};
            for (int n : numbers) {
                String ahead = "like 7 " + "mkbpos".charAt(which);
                E.due(ahead + "<" + n, likeBy(ahead + "<" + n), facts[which] < n ? 57 : 50);
                E.due(ahead + "=" + n, likeBy(ahead + "=" + n), facts[which] == n ? 57 : 50);
                E.due(ahead + ">" + n, likeBy(ahead + ">" + n), facts[which] > n ? 57 : 50);
            }
        }
        E.of(3, "p PAGES by 10 (cut)");
        ClubReads x = Check.with("like 1 p=0;like 2 p=1;like 4 p=9;like 8 p>8;like 16 p<1");
        x.member(0, 0);
        int[] pages = {0, 9, 10, 19, 89, 90};
        int[] due = {17, 17, 2, 2, 0, 12};
        for (int b = 0; b < 6; b++) {
            x.book(pages[b], 0, 0, 0);
            E.due(x, 50 + due[b], "like", 0, b);
        }
        x.had(5, true);
        E.due(x, 62, "like", 0, 5);
    }

    private static void joined(String e, boolean holds) {
        E.due("like 7 " + e, likeBy("like 7 " + e), holds ? 57 : 50);
    }

    private static void joined() {
        E.of(3, "F: !F, (E); a ! is of its F alone");
        joined("!m=2", false);
        joined("!m=1", true);
        joined("!!m=2", true);
        joined("!!!!!m=2", false);
        joined("(((((m=2)))))", true);
        joined("!((!(m=2)))", true);
        joined("!m<0", true);
        joined("!m=1&m=1", false);
        joined("!(m=1&m=1)", true);
        joined("!m=2|m=2", true);
        joined("!(m=2|m=2)", false);
        E.of(3, "E: T, or T|E. T: F, or F&T: & joins ahead of |");
        joined("m=2&m<0", false);
        joined("m=2|m<0", true);
        joined("m<0|m=2", true);
        joined("m<0&m=2", false);
        joined("m=2|m=1&m=1", true);
        joined("(m=2|m=1)&m=1", false);
        joined("m=1&m=1|m=2", true);
        joined("m=1&(m=1|m=2)", false);
        joined("m=2&(m<0|m=2)", true);
        joined("m=2&(b=3)", true);
        joined("m=2&(b=1|b=3)&o=7", true);
        joined("m=2&(b=1|b=3)&o=6", false);
        joined("m=1|(b=3&(o=7|s=0))", true);
        joined("m=1|(b=3&!(o=7|s=0))", false);
        joined("m=2" + "&m=2".repeat(20), true);
        joined("m=2" + "&m=2".repeat(19) + "&m=1", false);
        joined("m=1" + "|m=1".repeat(20), false);
        joined("m=1" + "|m=1".repeat(19) + "|m=2", true);
    }

    private static int likeBy(String club) {
        ClubReads x = Check.with(club);
        x.member(0, 0);
        x.member(0, 0);
        x.member(4, 0);
        for (int b = 0; b < 3; b++) {
            x.book(0, 0, 0, 0);
        }
        x.book(69, 7, 1, 0);
        return x.like(2, 3);
    }

    private static void member() {
        E.of(4, "a KIND: 0 .. 6");
        for (int kind = 0; kind <= 6; kind++) {
            ClubReads x = new ClubReads();
            E.due(x, 0, "member", kind, 0);
            E.due(x, kind, "of", 0, 0);
        }
        for (int kind : Edge.outside(0, 6)) {
            E.leaves(Scene.SOME, NONE, "member", kind, 0);
        }
        E.of(4, "a number v (0 .. 9)");
        for (int v = 0; v <= 9; v++) {
            ClubReads x = new ClubReads();
            E.due(x, 0, "member", 6, v);
            E.due(x, v, "of", 0, 1);
        }
        for (int v : Edge.outside(0, 9)) {
            E.leaves(Scene.SOME, BAD, "member", 0, v);
            E.leaves(Scene.EMPTY, BAD, "member", 6, v);
        }
        E.of(4, "NONE: kind is told ahead of BAD: v");
        for (int kind : Edge.outside(0, 6)) {
            for (int v : Edge.outside(0, 9)) {
                E.leaves(Scene.SOME, NONE, "member", kind, v);
            }
        }
    }

    private static void memberFull() {
        E.of(4, "MEMBERS are numbered from 0 on, 6 at most");
        ClubReads x = new ClubReads();
        for (int m = 0; m < 6; m++) {
            E.due(x, m, "member", m, 9 - m);
            E.due(x, m + 1, "count", 0);
        }
        E.due(x, FULL, "member", 0, 0);
        E.due(x, 6, "count", 0);
        E.due(x, 63, "told", 2);
        E.leaves(Scene.FULL, FULL, "member", 0, 0);
        E.leaves(Scene.FULL, FULL, "member", 6, 9);
        E.of(4, "NONE, BAD are told ahead of FULL");
        for (int kind : Edge.outside(0, 6)) {
            E.leaves(Scene.FULL, NONE, "member", kind, 10);
        }
        for (int v : Edge.outside(0, 9)) {
            E.leaves(Scene.FULL, BAD, "member", 0, v);
        }
        E.of(4, "who is gone is a member still: no room comes of it");
        ClubReads y = Check.with("loath 99 m<9;come 0");
        for (int m = 0; m < 6; m++) {
            y.member(0, 0);
        }
        y.book(0, 0, 0, 0);
        y.month(0);
        E.due(y, 0, "told", 2);
        E.due(y, FULL, "member", 0, 0);
    }

    private static void newcomer() {
        E.of(4, "GLAD (0 at first); HERE at first, in any MONTH");
        ClubReads x = Scene.GONE.make();
        E.due(x, 3, "member", 0, 0);
        E.due(x, 0, "of", 3, 2);
        E.due(x, 1, "of", 3, 3);
        E.due(x, 8, "told", 2);
        E.of(4, "GLAD 0 and HERE also where another one had that number ahead of undo");
        ClubReads y = Check.with("loath 99 m=1;come 0");
        y.member(0, 0);
        y.book(0, 0, 0, 0);
        y.image();
        y.member(0, 0);
        y.month(0);
        E.due(y, -99, "of", 1, 2);
        E.due(y, 1, "undo");
        E.due(y, 1, "member", 3, 4);
        E.due(y, 0, "of", 1, 2);
        E.due(y, 1, "of", 1, 3);
        E.due(y, 3, "of", 1, 0);
    }

    private static void book() {
        E.of(5, "PAGES (0 .. 99), a MOOD (0 .. 9), a SORT (0 .. 3)");
        int[][] books = {{0, 0, 0}, {99, 0, 0}, {0, 9, 0}, {0, 0, 3}, {99, 9, 3}};
        for (int[] b : books) {
            ClubReads x = new ClubReads();
            x.member(0, 0);
            E.due(x, 0, "book", b[0], b[1], b[2], 0);
            for (int what = 0; what < 3; what++) {
                E.due(x, b[what], "at", 0, what);
            }
        }
        for (int pages : Edge.outside(0, 99)) {
            E.leaves(Scene.SOME, BAD, "book", pages, 0, 0, 0);
        }
        for (int mood : Edge.outside(0, 9)) {
            E.leaves(Scene.SOME, BAD, "book", 0, mood, 0, 0);
        }
        for (int sort : Edge.outside(0, 3)) {
            E.leaves(Scene.SOME, BAD, "book", 0, 0, sort, 0);
        }
        E.of(5, "BY one of the MEMBERS; NONE: by, ahead of BAD");
        for (int by : Edge.outside(0, 2)) {
            E.leaves(Scene.SOME, NONE, "book", 0, 0, 0, by);
            E.leaves(Scene.SOME, NONE, "book", 100, 10, 4, by);
        }
        E.leaves(Scene.EMPTY, NONE, "book", -1, -1, -1, 0);
        E.due(Scene.SOME.make(), 3, "book", 0, 0, 0, 2);
        E.due(Scene.GONE.make(), 3, "book", 0, 0, 0, 2);
        E.due(Scene.READ.make(), 3, "book", 0, 0, 0, 0);
    }

    private static void bookFull() {
        E.of(5, "BOOKS are numbered from 0 on, 6 at most");
        ClubReads x = new ClubReads();
        x.member(0, 0);
        for (int b = 0; b < 6; b++) {
            E.due(x, b, "book", b, b, b % 4, 0);
            E.due(x, b + 1, "count", 1);
        }
        E.due(x, FULL, "book", 0, 0, 0, 0);
        E.due(x, 6, "count", 1);
        E.leaves(Scene.FULL, FULL, "book", 0, 0, 0, 0);
        E.leaves(Scene.FULL, FULL, "book", 99, 9, 3, 5);
        E.of(5, "a book that is HAD leaves no room");
        E.leaves(Scene.FIVE, FULL, "book", 0, 0, 0, 0);
        E.of(5, "NONE, BAD are told ahead of FULL");
        E.leaves(Scene.FULL, NONE, "book", 0, 0, 0, -1);
        E.leaves(Scene.FULL, NONE, "book", 100, 0, 0, 6);
        E.leaves(Scene.FULL, BAD, "book", 100, 0, 0, 0);
        E.leaves(Scene.FULL, BAD, "book", 0, 10, 0, 0);
        E.leaves(Scene.FULL, BAD, "book", 0, 0, 4, 0);
    }

    private static void newBook() {
        E.of(5, "OPEN at first, in any MONTH");
        ClubReads x = Scene.SPENT.make();
        E.due(x, 3, "book", 0, 0, 0, 0);
        E.due(x, 0, "at", 3, 4);
        E.due(x, 13, "told", 3);
        E.of(5, "OPEN also where another one had that number ahead of undo");
        ClubReads y = new ClubReads();
        y.member(0, 0);
        y.image();
        y.book(9, 9, 3, 0);
        y.had(0, true);
        E.due(y, 1, "undo");
        E.due(y, 0, "book", 1, 2, 3, 0);
        E.due(y, 0, "at", 0, 4);
        E.due(y, 1, "at", 0, 0);
        E.due(y, 1, "told", 3);
    }

    private static void of() {
        E.of(6, "what 0 .. 3; -10001: NONE");
        for (int what : Edge.outside(0, 3)) {
            E.leaves(Scene.SOME, FAR_NONE, "of", 0, what);
        }
        for (int m : Edge.outside(0, 2)) {
            E.leaves(Scene.SOME, FAR_NONE, "of", m, 0);
            E.leaves(Scene.SOME, FAR_NONE, "of", m, 3);
        }
        for (int m : Edge.outside(0, 5)) {
            E.leaves(Scene.FULL, FAR_NONE, "of", m, 0);
        }
        for (int m = 0; m < 6; m++) {
            E.leaves(Scene.FULL, m + 1, "of", m, 0);
            E.leaves(Scene.FULL, m, "of", m, 1);
            E.leaves(Scene.FULL, 0, "of", m, 2);
            E.leaves(Scene.FULL, 1, "of", m, 3);
        }
        E.of(6, "whether HERE, GLAD of who is gone");
        for (int m = 0; m < 3; m++) {
            E.leaves(Scene.GONE, 0, "of", m, 3);
            E.leaves(Scene.GONE, -99, "of", m, 2);
        }
    }

    private static void at() {
        E.of(7, "what 0 .. 4; NONE");
        for (int what : Edge.outside(0, 4)) {
            E.leaves(Scene.SOME, NONE, "at", 0, what);
        }
        for (int b : Edge.outside(0, 2)) {
            E.leaves(Scene.SOME, NONE, "at", b, 0);
            E.leaves(Scene.SOME, NONE, "at", b, 4);
        }
        for (int b : Edge.outside(0, 5)) {
            E.leaves(Scene.FULL, NONE, "at", b, 0);
        }
        for (int b = 0; b < 6; b++) {
            E.leaves(Scene.FULL, b * 19, "at", b, 0);
            E.leaves(Scene.FULL, 9 - b, "at", b, 1);
            E.leaves(Scene.FULL, b % 4, "at", b, 2);
            E.leaves(Scene.FULL, b, "at", b, 3);
            E.leaves(Scene.FULL, 0, "at", b, 4);
            E.leaves(Scene.FIVE, b == 4 ? 1 : 0, "at", b, 4);
        }
    }

    private static void told() {
        E.of(8, "what 0 .. 3; NONE");
        for (int what : Edge.outside(0, 3)) {
            E.leaves(Scene.EMPTY, NONE, "told", what);
            E.leaves(Scene.SOME, NONE, "told", what);
        }
        E.of(8, "MONTH, come, members HERE, OPEN books: none, and all");
        int[] due = {1, 4, 7, 5};
        int[] full = {0, 3, 63, 63};
        int[] gone = {1, 0, 0, 5};
        int[] read = {0, 4, 7, 0};
        int[] spent = {99, 4, 7, 5};
        for (int what = 0; what < 4; what++) {
            E.leaves(Scene.SOME, due[what], "told", what);
            E.leaves(Scene.FULL, full[what], "told", what);
            E.leaves(Scene.GONE, gone[what], "told", what);
            E.leaves(Scene.READ, read[what], "told", what);
            E.leaves(Scene.SPENT, spent[what], "told", what);
        }
    }

    private static void had() {
        E.of(9, "NONE");
        for (int b : Edge.outside(0, 2)) {
            E.leaves(Scene.SOME, NONE, "had", b, 1);
            E.leaves(Scene.SOME, NONE, "had", b, 0);
        }
        for (int b : Edge.outside(0, 5)) {
            E.leaves(Scene.FULL, NONE, "had", b, 1);
        }
        E.of(9, "whether it was: no change if it was so");
        for (int b = 0; b < 6; b++) {
            E.leaves(Scene.FULL, 0, "had", b, 0);
        }
        for (int b = 0; b < 3; b++) {
            E.leaves(Scene.READ, 1, "had", b, 1);
        }
        E.of(9, "HAD, or not, by hand: nothing else changes");
        ClubReads x = Scene.SPENT.make();
        int glad = x.of(1, 2);
        E.due(x, 0, "had", 0, 1);
        E.due(x, 1, "had", 0, 1);
        E.due(x, 4, "told", 3);
        E.due(x, 0, "had", 2, 1);
        E.due(x, 0, "told", 3);
        E.due(x, 1, "had", 1, 0);
        E.due(x, 0, "had", 1, 0);
        E.due(x, 2, "told", 3);
        E.due(x, 99, "told", 0);
        E.due(x, glad, "of", 1, 2);
        ClubReads y = Scene.FULL.make();
        for (int b = 0; b < 6; b++) {
            E.due(y, 0, "had", b, 1);
            E.due(y, 63 & -2 << b, "told", 3);
        }
    }

    private EdgeClubTest() {
    }
}
