/** For each promise of the document, by its number, what it asks, worked out by hand. */
public final class PromisesTest {
    private static final Edge PROMISE = new Edge("PromisesTest");
    private static final int FAR = -10001;
    private static final int LEAST = Integer.MIN_VALUE;
    private static final int MOST = Integer.MAX_VALUE;

    /** ORDERS: 0 and 1 have 0 1 2; 2 has 1 2 0; 3 and 4 have 2 1 0. */
    private static final String VOTE = "like 1 m>1&b>0;like 1 m=2&b=1;like 1 m>2&b=2";

    public static void main(String[] args) {
        clubsMembersBooks();
        likesOrdersWays();
        readingMonths();
        hands();
        actsTheImage();
        PROMISE.end(1, 30);
    }

    private static void clubsMembersBooks() {
        PROMISE.of(1, "A new object");
        newObject();
        PROMISE.of(2, "feed");
        feed();
        PROMISE.of(3, "club");
        clubTexts();
        clubState();
        clubTests();
        PROMISE.of(4, "member");
        member();
        PROMISE.of(5, "book");
        book();
        PROMISE.of(6, "of");
        of();
        PROMISE.of(7, "at");
        at();
        PROMISE.of(8, "told");
        told();
        PROMISE.of(9, "had");
        had();
    }

    private static void likesOrdersWays() {
        PROMISE.of(10, "like");
        like();
        PROMISE.of(11, "order");
        order();
        says();
        PROMISE.of(12, "chosen");
        chosen();
        chosenEdges();
        PROMISE.of(13, "alone");
        alone();
        PROMISE.of(14, "gain");
        gain();
    }

    private static void readingMonths() {
        PROMISE.of(15, "reads");
        reads();
        PROMISE.of(16, "comes");
        comes();
        PROMISE.of(17, "enough");
        enough();
        PROMISE.of(18, "month");
        month();
        monthLimit();
        PROMISE.of(19, "by");
        by();
        PROMISE.of(20, "run");
        run();
        PROMISE.of(21, "best");
        best();
        PROMISE.of(22, "row");
        row();
    }

    private static void hands() {
        PROMISE.of(23, "hand");
        hand();
        PROMISE.of(24, "looked");
        looked();
    }

    private static void actsTheImage() {
        PROMISE.of(25, "act");
        act();
        PROMISE.of(26, "trace");
        trace();
        PROMISE.of(27, "as");
        as();
        PROMISE.of(28, "image");
        image();
        PROMISE.of(29, "undo");
        undo();
        PROMISE.of(30, "count");
        count();
    }

    private static void due(String call, long got, long want) {
        PROMISE.due(call, got, want);
    }

    private static ClubReads plain(String club, int members, int books) {
        return Check.plain(club, members, books);
    }

    private static void newObject() {
        ClubReads x = new ClubReads();
        for (int what = 0; what <= 5; what++) {
            due("new: count(" + what + ")", x.count(what), 0);
        }
        due("new: told(0)", x.told(0), 0);
        due("new: told(1)", x.told(1), 5);
        due("new: told(2)", x.told(2), 0);
        due("new: told(3)", x.told(3), 0);
        due("new: of(0, 0)", x.of(0, 0), FAR);
        due("new: at(0, 0)", x.at(0, 0), -1);
        due("new: like(0, 0)", x.like(0, 0), FAR);
        due("new: undo()", x.undo(), -3);
        due("new: trace(0)", x.trace(0), -1);
        due("new: looked()", x.looked(), -5);
        due("new: best()", x.best(), 0);
        due("new: row(0)", x.row(0), -5);
        for (int way = 0; way < 6; way++) {
            due("new: chosen(" + way + ", 0)", x.chosen(way, 0), -5);
            due("new: chosen(" + way + ", 1)", x.chosen(way, 1), -5);
            due("new: alone(" + way + ")", x.alone(way), 0);
            due("new: by(" + way + ")", x.by(way), -3);
            due("new: run(6, " + way + ", 2)", x.run(6, way, 2), 0);
        }
        due("NO", ClubReads.NO, Long.MIN_VALUE);
        due("NONE", ClubReads.NONE, -1);
        due("BAD", ClubReads.BAD, -2);
        due("STATE", ClubReads.STATE, -3);
        due("FULL", ClubReads.FULL, -4);
    }

    private static void feed() {
        ClubReads x = new ClubReads();
        due("feed(0)", x.feed(0), 1);
        due("feed(127)", x.feed(127), 2);
        due("feed(-1)", x.feed(-1), -2);
        due("feed(128)", x.feed(128), -2);
        due("feed(LEAST)", x.feed(LEAST), -2);
        due("feed(MOST)", x.feed(MOST), -2);
        for (int i = 3; i <= 100; i++) {
            due("feed, the sign " + i, x.feed('a'), i);
        }
        due("feed to a full tape", x.feed('a'), -4);
        due("feed(128) to a full tape", x.feed(128), -2);
        due("a full tape's signs", x.count(4), 100);
    }

    private static void text(String text, int want) {
        due("club() of '" + text + "'", Check.club(new ClubReads(), text), want);
    }

    private static void clubTexts() {
        text("", -10);
        text("come 3", 0);
        text("come 0", 0);
        text("come 99", 0);
        text("come 03", -16);
        text("come 100", -17);
        text("come", -14);
        text("come ", -15);
        text("come x", -15);
        text("come  1", -15);
        text("come /", -15);
        text("come :", -15);
        text("come 1/", -16);
        text("come 1:", -16);
        text("come 1 ", -16);
        text("come 1 m=1", -16);
        text("come 1;", -17);
        text("come 1;;", -17);
        text(";come 1", -10);
        text(" come 1", -10);
        text("Come 1", -10);
        text("l", -11);
        text("lx", -11);
        text("ln", -11);
        text("loaf", -13);
        text("like1", -14);
        text("reed 1", -12);
        text("coma 1", -13);
        text("like 1", -16);
        text("like 1;", -16);
        text("like 1 ", -17);
        text("like 1 x", -17);
        text("like 1 m", -18);
        text("like 1 m!1", -18);
        text("like 1 m=", -19);
        text("like 1 m=m", -19);
        text("like 1 m=1", 0);
        text("like 1 m=12", 0);
        text("like 1 m=01", -20);
        text("like 1 m=123", -21);
        text("like 1 m=1 ", -20);
        text("like 1 m=1)", -20);
        text("like 1 m=1m", -20);
        text("like 1 m=1&", -21);
        text("like 1 m=1&&", -21);
        text("like 1 m=1|&", -21);
        text("like 1 m=1|!m=1", 0);
        text("like 1 m=1!", -20);
        text("like 1 ()", -18);
        text("like 1 (m=1", -21);
        text("like 1 (m=1;", -21);
        text("like 1 (m=1))", -22);
        text("like 1 (m=1)(", -22);
        text("loath 5 k<2;read 1 b>3&p=4|o<5;like 9 (s=1);come 4", 0);
        text("like 1 !!!!!m=1", 0);
        text("like 1 !!!!!!m=1", -22);
        text("like 1 !!(!(m=1))", 0);
        text("like 1 (((((m=1)))))", 0);
        text("like 1 ((((((m=1))))))", -22);
        text("like 1 (!!!!(m=1))", -22);
        text("like 1 !!!!!m=1&!!!!!m=2|!!!!!m=3", 0);
        text("like 1 (!!!!m=1|!!!!m=2)&(!(m=1))", 0);
        text("like 1 (!!!!m=1|!!!!!m=2)", -30);
        String nine = "come 1;come 1;come 1;come 1;come 1;come 1;come 1;come 1;come 1";
        text(nine + ";come 2", 0);
        text(nine + ";come 2;come 3", -79);
        text(nine + ";come 2;", -79);
        text((char) 0 + "come 1", -10);
    }

    private static void clubState() {
        ClubReads x = new ClubReads();
        due("club 0", Check.club(x, "come 3;come 7"), 0);
        due("the last come", x.told(1), 7);
        due("the tape behind a club", x.count(4), 0);
        due("a fault", Check.club(x, "come 4;"), -17);
        due("come behind a fault", x.told(1), 7);
        due("the tape behind a fault", x.count(4), 0);
        due("clubs behind a fault", x.count(2), 1);
        due("club 1", Check.club(x, "like 1 m=1"), 1);
        due("come of a club without", x.told(1), 5);
        due("club 2", Check.club(x, "come 2"), 2);
        due("club 3", Check.club(x, "come 3"), 3);
        due("club 4", Check.club(x, "come 9"), 4);
        Check.feed(x, "come 1");
        due("club 5", x.club(), -4);
        due("the tape behind FULL", x.count(4), 6);
        due("come behind FULL", x.told(1), 9);
        due("clubs behind FULL", x.count(2), 5);
    }

    /** What a test asks of member 1 (KIND 3) with book 2 (PAGES 57, MOOD 4, SORT 3). */
    private static void test(String e, boolean holds) {
        ClubReads x = Check.with("like 10 " + e);
        x.member(0, 0);
        x.member(2, 0);
        x.book(0, 0, 0, 0);
        x.book(0, 0, 0, 0);
        x.book(57, 4, 3, 0);
        due("like by " + e, x.like(1, 2), holds ? 60 : 50);
    }

    private static void clubTests() {
        test("m=1", true);
        test("m=0", false);
        test("m<1", false);
        test("m<2", true);
        test("m>1", false);
        test("m>0", true);
        test("k=2", true);
        test("b=2", true);
        test("p=5", true);
        test("p>5", false);
        test("o=4", true);
        test("s=3", true);
        test("s<3", false);
        test("s<33", true);
        test("m<0", false);
        test("m=1&m<0", false);
        test("m>99", false);
        test("m=99", false);
        test("m<99", true);
        test("k<0", false);
        test("k>99", false);
        test("s>99", false);
        test("s<99", true);
        test("p<6", true);
        test("p<5", false);
        test("!m=1", false);
        test("!!m=1", true);
        test("!m=0&b=2", true);
        test("!(m=0&b=2)", true);
        test("!(m=1&b=2)", false);
        test("!m=1&b=9", false);
        test("!m=1|b=2", true);
        test("!(m=1|b=2)", false);
        test("m=1|b=9&o=9", true);
        test("(m=1|b=9)&o=9", false);
        test("o=9&b=9|m=1", true);
        test("o=9&(b=9|m=1)", false);
        test("m=1&b=2&o=9", false);
        test("m=1&b=2&o=4", true);
        test("m=9|b=9|o=9", false);
        test("m=9|b=9|o=4", true);
        test("m=9|b=2&!(o=9|!s=3)", true);
        test("m=9&b=2|o=9&s=3", false);
        test("m=1&b=9|o=4&s=3", true);
    }

    private static void member() {
        ClubReads x = new ClubReads();
        due("member(-1, 0)", x.member(-1, 0), -1);
        due("member(7, 0)", x.member(7, 0), -1);
        due("member(7, 10)", x.member(7, 10), -1);
        due("member(0, -1)", x.member(0, -1), -2);
        due("member(0, 10)", x.member(0, 10), -2);
        for (int kind = 0; kind < 6; kind++) {
            due("member of kind " + kind, x.member(kind, 9 - kind), kind);
        }
        due("a 7th member", x.member(6, 0), -4);
        due("a 7th member of no kind", x.member(7, 0), -1);
        due("a 7th member with a bad v", x.member(6, 10), -2);
        due("members", x.count(0), 6);
        due("kind 6", new ClubReads().member(6, 9), 0);
    }

    private static void book() {
        ClubReads x = new ClubReads();
        due("book by nobody", x.book(0, 0, 0, 0), -1);
        x.member(0, 0);
        due("book by -1", x.book(100, 0, 0, -1), -1);
        due("book by 1", x.book(0, 0, 0, 1), -1);
        due("book(-1, ..)", x.book(-1, 0, 0, 0), -2);
        due("book(100, ..)", x.book(100, 0, 0, 0), -2);
        due("mood -1", x.book(0, -1, 0, 0), -2);
        due("mood 10", x.book(0, 10, 0, 0), -2);
        due("sort -1", x.book(0, 0, -1, 0), -2);
        due("sort 4", x.book(0, 0, 4, 0), -2);
        for (int b = 0; b < 6; b++) {
            due("book " + b, x.book(99, 9, 3, 0), b);
        }
        due("a 7th book", x.book(0, 0, 0, 0), -4);
        due("a 7th book by nobody", x.book(0, 0, 0, 1), -1);
        due("a 7th bad book", x.book(0, 0, 4, 0), -2);
        due("books", x.count(1), 6);
    }

    private static void of() {
        ClubReads x = Check.with("loath 51 m=0;come 0");
        x.member(3, 9);
        x.member(5, 4);
        x.book(0, 0, 0, 1);
        due("of(0, 0)", x.of(0, 0), 3);
        due("of(0, 1)", x.of(0, 1), 9);
        due("of(0, 2)", x.of(0, 2), 0);
        due("of(0, 3)", x.of(0, 3), 1);
        due("of(1, 0)", x.of(1, 0), 5);
        due("of(1, 1)", x.of(1, 1), 4);
        x.month(0);
        due("of(0, 2) behind a month", x.of(0, 2), -51);
        due("of(0, 3) behind a month", x.of(0, 3), 0);
        due("of(1, 2) behind a month", x.of(1, 2), 20);
        due("of(1, 3) behind a month", x.of(1, 3), 1);
        due("of(2, 0)", x.of(2, 0), FAR);
        due("of(-1, 0)", x.of(-1, 0), FAR);
        due("of(0, 4)", x.of(0, 4), FAR);
        due("of(0, -1)", x.of(0, -1), FAR);
    }

    private static void at() {
        ClubReads x = new ClubReads();
        x.member(0, 0);
        x.member(0, 0);
        x.book(77, 5, 2, 1);
        due("at(0, 0)", x.at(0, 0), 77);
        due("at(0, 1)", x.at(0, 1), 5);
        due("at(0, 2)", x.at(0, 2), 2);
        due("at(0, 3)", x.at(0, 3), 1);
        due("at(0, 4)", x.at(0, 4), 0);
        x.had(0, true);
        due("at(0, 4) when had", x.at(0, 4), 1);
        due("at(0, 5)", x.at(0, 5), -1);
        due("at(0, -1)", x.at(0, -1), -1);
        due("at(1, 0)", x.at(1, 0), -1);
        due("at(-1, 0)", x.at(-1, 0), -1);
    }

    private static void told() {
        ClubReads x = plain("loath 51 m=1;come 0", 3, 3);
        due("told(0)", x.told(0), 0);
        due("told(1)", x.told(1), 0);
        due("told(2)", x.told(2), 7);
        due("told(3)", x.told(3), 7);
        x.month(1);
        due("told(0) behind a month", x.told(0), 1);
        due("told(2) behind a month", x.told(2), 5);
        due("told(3) behind a month", x.told(3), 5);
        due("told(4)", x.told(4), -1);
        due("told(-1)", x.told(-1), -1);
    }

    private static void had() {
        ClubReads x = plain("come 5", 1, 2);
        due("had(1, false)", x.had(1, false), 0);
        due("had(1, true)", x.had(1, true), 0);
        due("open", x.told(3), 1);
        due("had(1, true) again", x.had(1, true), 1);
        due("had(1, false) then", x.had(1, false), 1);
        due("open again", x.told(3), 3);
        due("had(2, true)", x.had(2, true), -1);
        due("had(-1, true)", x.had(-1, true), -1);
        due("open still", x.told(3), 3);
        due("no month by hand", x.told(0), 0);
    }

    private static void like() {
        ClubReads x = Check.with("like 30 m=0;like 9 b=1;loath 25 o>5;loath 99 m=1;read 50 m=0");
        x.member(0, 9);
        x.member(2, 7);
        x.member(5, 3);
        x.member(3, 9);
        x.member(6, 9);
        x.member(4, 9);
        x.book(99, 0, 0, 1);
        x.book(51, 6, 0, 2);
        due("MEMBER", x.like(0, 0), 80);
        due("MEMBER, two likes and a loath", x.like(0, 1), 64);
        due("PROUD, own", x.like(1, 0), 50 - 99 + 35);
        due("PROUD, not own", x.like(1, 1), 50 + 9 - 25 - 99);
        due("STRIKING, own", x.like(2, 1), 50 + 9 - 25 + 15);
        due("STRIKING, not own", x.like(2, 0), 50);
        due("SHORT", x.like(3, 0), 50 - 49);
        due("SHORT, 51 pages", x.like(3, 1), 50 + 9 - 25 - 25);
        due("AWAY", x.like(4, 0), 50 - 49);
        due("FOLLOWING", x.like(5, 0), 50);
        due("like(6, 0)", x.like(6, 0), FAR);
        due("like(-1, 0)", x.like(-1, 0), FAR);
        due("like(0, 2)", x.like(0, 2), FAR);
        due("like(0, -1)", x.like(0, -1), FAR);
        x.had(0, true);
        due("a had book", x.like(0, 0), 80);
        Check.club(x, "like 1 m=0");
        due("by the newest club", x.like(0, 0), 51);
        ClubReads y = new ClubReads();
        y.member(0, 0);
        y.book(0, 0, 0, 0);
        due("without a club", y.like(0, 0), 50);
    }

    private static void order() {
        ClubReads x = plain(VOTE, 5, 3);
        int[][] due = {{0, 1, 2}, {0, 1, 2}, {1, 2, 0}, {2, 1, 0}, {2, 1, 0}};
        for (int m = 0; m < 5; m++) {
            for (int k = 0; k < 3; k++) {
                due("order(" + m + ", 0, " + k + ")", x.order(m, 0, k), due[m][k]);
                due("order(" + m + ", 1, " + k + ")", x.order(m, 1, k), due[m][k]);
            }
        }
        due("order(0, 0, 3)", x.order(0, 0, 3), -5);
        due("order(0, 1, 5)", x.order(0, 1, 5), -5);
        due("order(0, 0, 6)", x.order(0, 0, 6), -1);
        due("order(0, 0, -1)", x.order(0, 0, -1), -1);
        due("order(0, 2, 0)", x.order(0, 2, 0), -1);
        due("order(0, -1, 0)", x.order(0, -1, 0), -1);
        due("order(5, 0, 0)", x.order(5, 0, 0), -1);
        due("order(-1, 0, 0)", x.order(-1, 0, 0), -1);
        x.had(1, true);
        due("without a had one", x.order(2, 0, 0), 2);
        due("without a had one, then", x.order(2, 0, 1), 0);
        due("without a had one, none", x.order(2, 0, 2), -5);
    }

    private static void row3(ClubReads x, String who, int m, int a, int b, int c) {
        due(who + " says, 0", x.order(m, 1, 0), a);
        due(who + " says, 1", x.order(m, 1, 1), b);
        due(who + " says, 2", x.order(m, 1, 2), c);
        due(who + " says, 3", x.order(m, 1, 3), -5);
    }

    private static void says() {
        // 0, 1: 0 1 2; from 2 on: 1 0 2. Book 0 is first for two, and for two of four the least.
        ClubReads x = Check.with("like 9 b=0&m<2;like 5 b=1&m>1");
        x.member(0, 0);
        x.member(1, 0);
        x.member(1, 0);
        x.member(4, 9);
        for (int b = 0; b < 3; b++) {
            x.book(0, 0, 0, 0);
        }
        row3(x, "PAYING whose own is first", 1, 0, 1, 2);
        row3(x, "PAYING", 2, 1, 2, 0);
        row3(x, "FOLLOWING nobody", 3, 1, 2, 0);
        due("its ORDER stays", x.order(2, 0, 1), 0);
        x.member(4, 2);
        row3(x, "PAYING, 1 being first for three", 2, 1, 0, 2);
        row3(x, "PAYING, from 0", 1, 0, 2, 1);
        row3(x, "FOLLOWING 2, by its ORDER", 4, 1, 0, 2);
        x.member(4, 5);
        row3(x, "FOLLOWING itself", 5, 1, 0, 2);
        ClubReads u = Check.with("like 9 b=2&m=0");
        u.member(0, 0);
        u.member(4, 0);
        for (int b = 0; b < 3; b++) {
            u.book(0, 0, 0, 0);
        }
        row3(u, "FOLLOWING 0", 1, 2, 0, 1);
        ClubReads t = Check.with("like 9 b=2&m=1");
        t.member(4, 0);
        t.member(4, 3);
        t.member(0, 0);
        for (int b = 0; b < 3; b++) {
            t.book(0, 0, 0, 0);
        }
        row3(t, "FOLLOWING itself, 0", 0, 0, 1, 2);
        row3(t, "FOLLOWING 3 of three", 1, 2, 1, 0);

        ClubReads y = Check.with("like 9 b=0&m<3;loath 99 m=5;come 0");
        y.member(5, 0);
        y.member(5, 9);
        y.member(5, 2);
        y.member(4, 5);
        y.member(6, 0);
        y.member(0, 0);
        for (int b = 0; b < 4; b++) {
            y.book(0, 0, 0, 5);
        }
        y.had(3, true);
        row3(y, "STRIKING its first", 0, 1, 2, 0);
        row3(y, "STRIKING none", 1, 0, 1, 2);
        row3(y, "STRIKING the last", 2, 0, 1, 2);
        due("AWAY says nothing", y.order(4, 1, 0), -5);
        due("AWAY has an ORDER", y.order(4, 0, 0), 0);
        row3(y, "FOLLOWING 5", 3, 0, 1, 2);
        y.had(3, false);
        y.month(3);
        due("5 is gone", y.told(2), 31);
        due("who is gone says nothing", y.order(5, 1, 0), -5);
        due("who is gone has an ORDER", y.order(5, 0, 0), 0);
        row3(y, "AWAY in month 1", 4, 0, 1, 2);
        y.had(3, false);
        y.month(3);
        due("AWAY in month 2", y.order(4, 1, 0), -5);

        // 0 likes 1 most, follows 1, who likes 2 most and is gone behind the month with book 3.
        ClubReads z = Check.with("like 9 b=1&m=0;like 9 b=2&m=1;loath 99 b=3&m=1;come 0");
        z.member(4, 1);
        z.member(0, 0);
        z.member(0, 0);
        z.member(0, 0);
        for (int b = 0; b < 4; b++) {
            z.book(0, 0, 0, 2);
        }
        due("FOLLOWING 1", z.order(0, 1, 0), 2);
        z.month(3);
        due("1 is gone", z.of(1, 3), 0);
        row3(z, "FOLLOWING one who is gone, as PAYING", 0, 1, 2, 0);
    }

    private static void chosen() {
        ClubReads x = plain(VOTE, 5, 3);
        int[] due = {1, 1, 0, 2, 1, 0};
        for (int way = 0; way < 6; way++) {
            due("chosen(" + way + ", 0)", x.chosen(way, 0), due[way]);
            due("chosen(" + way + ", 1)", x.chosen(way, 1), due[way]);
        }
        due("chosen(6, 0)", x.chosen(6, 0), -1);
        due("chosen(-1, 0)", x.chosen(-1, 0), -1);
        due("chosen(0, 2)", x.chosen(0, 2), -1);
        due("chosen(0, -1)", x.chosen(0, -1), -1);
        // Here 4 strikes book 2, so it says 1 0 2.
        ClubReads y = plain(VOTE, 4, 0);
        y.member(5, 2);
        for (int b = 0; b < 3; b++) {
            y.book(0, 0, 0, 0);
        }
        int[] said = {1, 1, 0, 1, 1, 0};
        for (int way = 0; way < 6; way++) {
            due("striking: chosen(" + way + ", 0)", y.chosen(way, 0), said[way]);
            due("striking: chosen(" + way + ", 1)", y.chosen(way, 1), due[way]);
        }
        // By turns: 0 in months 0 and 5, 1 in 1, ..
        int[] turns = {0, 0, 1, 2, 2, 0};
        y.book(0, 0, 0, 0);
        for (int month = 0; month < 6; month++) {
            due("turns in month " + month, y.chosen(5, 1), turns[month]);
            due("turns as said in month " + month, y.chosen(5, 0), month == 4 ? 1 : turns[month]);
            y.month(3);
            y.had(3, false);
        }
    }

    private static void chosenEdges() {
        ClubReads x = new ClubReads();
        x.member(6, 0);
        x.book(98, 0, 0, 0);
        x.book(0, 0, 0, 0);
        for (int way = 0; way < 5; way++) {
            due("no orders: chosen(" + way + ", 0)", x.chosen(way, 0), 0);
            due("one order: chosen(" + way + ", 1)", x.chosen(way, 1), way == 0 ? 0 : 1);
        }
        due("no orders, by turns", x.chosen(5, 0), 1);
        x.had(0, true);
        for (int way = 0; way < 6; way++) {
            due("one book: chosen(" + way + ", 0)", x.chosen(way, 0), 1);
        }
        ClubReads y = plain("loath 99 b=0;come 0", 2, 4);
        y.month(0);
        y.had(1, true);
        for (int way = 0; way < 6; way++) {
            due("nobody: chosen(" + way + ", 0)", y.chosen(way, 0), 2);
            due("nobody: chosen(" + way + ", 1)", y.chosen(way, 1), 2);
        }
        // 0 1 2, 1 2 0, 2 0 1: no book is ahead of each other one; 3 2 points for none.
        ClubReads z = plain("like 2 m=1&b=1;like 1 m=1&b=2;like 2 m=2&b=2;like 1 m=2&b=0", 3, 3);
        due("a ring: first of 1", z.order(1, 0, 1), 2);
        due("a ring: first of 2", z.order(2, 0, 1), 0);
        due("a ring by pairs", z.chosen(4, 0), 0);
        due("a ring by rounds", z.chosen(3, 0), 0);
        // 0, 1, 2: 1 0 2, 3, 4: 0 2 1: 1 is ahead of each by 3 to 2, 0 has more points (7, 6, 2).
        ClubReads v = plain("like 9 m<3&b=1;like 5 m>2&b=0;like 1 m>2&b=2", 5, 3);
        due("ahead of each by pairs", v.chosen(4, 0), 1);
        due("by points", v.chosen(1, 0), 0);
        // 0 1 2 and 1 2 0: 0 is even with both others, 1 has more points (2, 3, 1).
        ClubReads u = plain("like 2 m=1&b=1;like 1 m=1&b=2", 2, 3);
        due("even is not ahead", u.chosen(4, 0), 1);
        due("rounds: 0 and 1, even", u.chosen(3, 0), 0);
        // 0: 1 0, 1: 0 1: a pair of which neither is ahead in more.
        ClubReads w = plain("like 1 m=0&b=1", 2, 2);
        due("even: by pairs as by points", w.chosen(4, 0), 0);
        due("even: by rounds the least", w.chosen(3, 0), 0);
        due("even: by turns", w.chosen(5, 0), 1);
    }

    private static void alone() {
        ClubReads x = plain(VOTE, 5, 3);
        int[] due = {0, 31, 7, 31, 31, 1};
        for (int way = 0; way < 6; way++) {
            due("alone(" + way + ")", x.alone(way), due[way]);
        }
        due("alone(6)", x.alone(6), -1);
        due("alone(-1)", x.alone(-1), -1);
        due("what is asked changes nothing", x.chosen(2, 0), 0);
        x.book(0, 0, 0, 0);
        x.book(0, 0, 0, 0);
        due("of five books", x.alone(5), 1);
        x.book(0, 0, 0, 0);
        due("of six books", x.alone(5), -9);
        due("of six books by no way", x.alone(6), -1);
        x.had(5, true);
        due("of five again", x.alone(5), 1);
        // Who says nothing may tell an order all the same; who is gone may not.
        ClubReads y = Check.with("loath 99 m=1;come 0");
        y.member(6, 0);
        y.member(0, 0);
        y.book(0, 0, 0, 0);
        y.book(0, 0, 0, 0);
        y.book(0, 0, 0, 0);
        due("AWAY and one more by firsts", y.alone(2), 2);
        due("AWAY by turns", y.alone(5), 1);
        y.month(2);
        due("1 is gone", y.told(2), 1);
        due("AWAY by firsts", y.alone(2), 1);
        due("AWAY by turns in month 1", y.alone(5), 1);
        y.month(1);
        due("of one book", y.alone(2), 0);
        y.month(0);
        due("of none", y.alone(2), 0);
    }

    private static void gain() {
        ClubReads x = plain(VOTE, 5, 3);
        due("gain(2, 2)", x.gain(2, 2), 2);
        due("gain(0, 2)", x.gain(0, 2), -5);
        due("gain(1, 2)", x.gain(1, 2), -5);
        due("gain(3, 2)", x.gain(3, 2), -5);
        // 1 is CHOSEN by points; 3 and 4 like 2 more: 2 0 1 only makes it 0, 2 1 0 is what they say.
        due("gain(3, 1)", x.gain(3, 1), -5);
        due("gain(2, 1)", x.gain(2, 1), -5);
        due("gain(2, 5)", x.gain(2, 5), -5);
        due("gain(5, 0)", x.gain(5, 0), -1);
        due("gain(-1, 0)", x.gain(-1, 0), -1);
        due("gain(0, 6)", x.gain(0, 6), -1);
        due("gain(0, -1)", x.gain(0, -1), -1);
        x.book(0, 0, 0, 0);
        x.book(0, 0, 0, 0);
        due("gain of five books", x.gain(2, 2), 2);
        x.book(0, 0, 0, 0);
        due("gain of six books", x.gain(0, 0), -9);
        due("gain of six books by no way", x.gain(0, 6), -1);
        // STRIKING its own best by turns: 1 0 2 comes first as a row with more LIKE.
        ClubReads y = Check.with("like 30 b=2;like 20 b=1;loath 99 m=1;come 0");
        y.member(5, 2);
        y.member(0, 0);
        for (int b = 0; b < 4; b++) {
            y.book(0, 0, 0, 0);
        }
        y.had(3, true);
        due("strikes 2", y.chosen(5, 0), 1);
        due("gains 2", y.gain(0, 5), 2);
        y.had(3, false);
        y.month(3);
        due("1 is gone", y.of(1, 3), 0);
        due("gain of who is gone", y.gain(1, 5), -3);
        due("gain of who is gone by no way", y.gain(1, 6), -1);
        y.month(0);
        y.month(1);
        y.month(2);
        due("gain of no books", y.gain(0, 0), -5);
        // 0 says 0 first; 1 and 2 are better for 1, who says nothing in month 0: the first row with more is 1 0 2.
        ClubReads z = Check.with("like 1 m=1&b=1;like 2 m=1&b=2");
        z.member(0, 0);
        z.member(6, 0);
        for (int b = 0; b < 3; b++) {
            z.book(0, 0, 0, 0);
        }
        due("the first gain by points: 1 2 0 makes it 1", z.gain(1, 1), 1);
        due("none by firsts", z.gain(1, 2), -5);
        due("the first by hands: 1 2 0 makes it 1", z.gain(1, 0), 1);
    }

    private static void reads() {
        ClubReads x = Check.with("read 2 p<3;read 3 o=1;loath 99 b=2;like 50 b=3;loath 70 b=4");
        x.member(0, 0);
        x.member(6, 0);
        x.member(3, 0);
        x.book(30, 0, 0, 0);
        x.book(20, 1, 0, 0);
        x.book(99, 0, 0, 0);
        x.book(20, 1, 0, 1);
        x.book(99, 0, 0, 0);
        due("BY it", x.reads(0, 0), 10);
        due("SHORT: 35 by 20", x.reads(2, 0), 4);
        due("SHORT: 40 by 20, and 5", x.reads(2, 1), 10);
        due("AWAY: half of 4", x.reads(1, 0), 2);
        due("AWAY: half of 10", x.reads(1, 1), 5);
        due("SHORT: -98 by 20 is -4", x.reads(2, 2), 0);
        due("AWAY: half of -1 is 0", x.reads(1, 2), 0);
        due("100 by 20, and 8, is more than 10", x.reads(0, 3), 10);
        due("BY one who is AWAY", x.reads(1, 3), 10);
        due("BY it, however loathed", x.reads(0, 2), 10);
        due("SHORT: -69 by 20 is -3, cut toward 0", x.reads(2, 4), 0);
        due("reads(3, 0)", x.reads(3, 0), -1);
        due("reads(-1, 0)", x.reads(-1, 0), -1);
        due("reads(0, 5)", x.reads(0, 5), -1);
        due("reads(0, -1)", x.reads(0, -1), -1);
        // -10 by 20 is 0, not -1; and AWAY 3 by 2 is 1.
        ClubReads y = Check.with("loath 60 m<9");
        y.member(0, 0);
        y.member(0, 0);
        y.member(6, 0);
        y.book(0, 0, 0, 0);
        due("-10 by 20", y.reads(1, 0), 3);
        due("AWAY, half of 3", y.reads(2, 0), 1);
        Check.club(y, "loath 10 m=1;loath 12 m=2");
        due("40 by 20", y.reads(1, 0), 5);
        due("AWAY: 38 by 20, half of 4", y.reads(2, 0), 2);
        Check.club(y, "loath 12 m=1;read 1 m=2");
        due("38 by 20", y.reads(1, 0), 4);
        due("AWAY: half of 6", y.reads(2, 0), 3);
        Check.club(y, "read 20 m=2;loath 51 m=1");
        due("AWAY, half of 25 and then 10", y.reads(2, 0), 10);
        due("-1 by 20", y.reads(1, 0), 3);
    }

    private static void comes() {
        ClubReads x = Check.with("come 5;loath 15 m=1;loath 99 m=3;read 9 m=2");
        x.member(0, 0);
        x.member(0, 0);
        x.member(6, 1);
        x.member(0, 0);
        x.book(0, 0, 0, 2);
        x.book(0, 0, 0, 0);
        due("5 of 5", x.comes(0, 0), 1);
        due("4 of 5", x.comes(1, 0), 0);
        due("AWAY in month 0, BY it", x.comes(2, 0), 0);
        due("comes(4, 0)", x.comes(4, 0), -1);
        due("comes(-1, 0)", x.comes(-1, 0), -1);
        due("comes(0, 2)", x.comes(0, 2), -1);
        due("comes(0, -1)", x.comes(0, -1), -1);
        int[] away = {0, 1, 1, 0, 1, 1, 0};
        for (int month = 0; month < 7; month++) {
            due("AWAY in month " + month, x.comes(2, 0), away[month]);
            x.month(1);
            x.had(1, false);
        }
        due("3 never came and is gone", x.of(3, 3), 0);
        due("who is gone does not come by READS", x.comes(3, 0), 0);
        Check.club(x, "come 5");
        due("who is gone may come", x.comes(3, 0), 1);
    }

    private static void part(ClubReads x, int book, int k, long above, long below) {
        due("enough(" + book + ", " + k + ", 0)", x.enough(book, k, 0), above);
        due("enough(" + book + ", " + k + ", 1)", x.enough(book, k, 1), below);
    }

    private static void enough() {
        ClubReads x = new ClubReads();
        x.member(0, 0);
        x.book(0, 0, 0, 0);
        part(x, 0, 0, 1, 1);
        part(x, 0, 1, 1, 1);
        part(x, 0, 2, 0, 1);
        x.member(0, 0);
        x.member(0, 0);
        // 10, 5 and 5 of ten.
        part(x, 0, 0, 1, 1);
        part(x, 0, 1, 1, 1);
        part(x, 0, 2, 3, 4);
        part(x, 0, 3, 1, 4);
        part(x, 0, 4, 0, 1);
        part(x, 0, 6, 0, 1);
        due("enough(1, 0, 0)", x.enough(1, 0, 0), Long.MIN_VALUE);
        due("enough(-1, 0, 0)", x.enough(-1, 0, 0), Long.MIN_VALUE);
        due("enough(0, 7, 0)", x.enough(0, 7, 0), Long.MIN_VALUE);
        due("enough(0, -1, 0)", x.enough(0, -1, 0), Long.MIN_VALUE);
        due("enough(0, 0, 2)", x.enough(0, 0, 2), Long.MIN_VALUE);
        due("enough(0, 0, -1)", x.enough(0, 0, -1), Long.MIN_VALUE);
        // Five others of 3 of ten: none of them 16807 of 100000, all 243.
        ClubReads y = plain("loath 40 m<9;come 0", 6, 2);
        due("3 of ten", y.reads(1, 0), 3);
        part(y, 0, 2, 83193, 100000);
        part(y, 0, 6, 243, 100000);
        // With -40 GLAD all stay; then all are gone and nobody reads.
        y.month(0);
        part(y, 0, 2, 83193, 100000);
        y.month(1);
        due("all are gone", y.told(2), 0);
        part(y, 0, 0, 1, 1);
        part(y, 0, 1, 0, 1);
    }

    private static void month() {
        // LIKE of 0: 80, of 1: 0, of 2: -1, of 3: 50 but it does not come.
        ClubReads x = plain("come 1;like 30 m=0;loath 50 m=1;loath 51 m=2;loath 99 b=3;read 1 m=0", 3, 4);
        x.member(6, 0);
        due("month(0)", x.month(0), 3);
        due("had", x.at(0, 4), 1);
        due("MONTH", x.told(0), 1);
        due("glad of 0", x.of(0, 2), 30);
        due("glad of 1, still here at -50", x.of(1, 2), -50);
        due("glad of 2", x.of(2, 2), -51);
        due("glad of 3", x.of(3, 2), -10);
        due("here", x.told(2), 11);
        due("month(0) again", x.month(0), -3);
        due("month(4)", x.month(4), -1);
        due("month(-1)", x.month(-1), -1);
        due("refusals change nothing", x.told(0), 1);
        due("month(1)", x.month(1), 3);
        due("glad of 0", x.of(0, 2), 60);
        due("glad of 1", x.of(1, 2), -100);
        due("glad of 2, who is gone", x.of(2, 2), -51);
        due("glad of 3, who came", x.of(3, 2), -10);
        due("here", x.told(2), 9);
        due("month(2), AWAY again", x.month(2), 1);
        due("glad of 3", x.of(3, 2), -20);
        due("open", x.told(3), 8);
        due("month(3)", x.month(3), 1);
        due("glad of 0: less 69 of 90, BY it", x.of(0, 2), 21);
        due("glad of 3: stays off", x.of(3, 2), -30);
    }

    private static void monthLimit() {
        ClubReads x = plain("come 5", 1, 1);
        for (int i = 0; i < 99; i++) {
            due("month " + i, x.month(0), 1);
            due("month(0) of a had book", x.month(0), -3);
            x.had(0, false);
        }
        due("told(0)", x.told(0), 99);
        due("the 100th month", x.month(0), -3);
        due("the 100th month by a way", x.by(0), -3);
        due("no such book", x.month(1), -1);
        due("no such way", x.by(6), -1);
        due("still open", x.told(3), 1);
        due("a run goes on", x.run(1, 0, 1), 1);
    }

    private static void by() {
        ClubReads x = plain(VOTE, 5, 3);
        due("by(6)", x.by(6), -1);
        due("by(-1)", x.by(-1), -1);
        due("by(3)", x.by(3), 2);
        due("had", x.at(2, 4), 1);
        due("MONTH", x.told(0), 1);
        due("glad of 3", x.of(3, 2), 2);
        due("by(5), the turn of 1", x.by(5), 0);
        due("by(0)", x.by(0), 1);
        due("by(0) of no books", x.by(0), -3);
        due("by(6) of no books", x.by(6), -1);
        due("MONTH at last", x.told(0), 3);
    }

    /** One who likes 0 with -1 and 1 with 80, and comes always: by hands 0 comes first, else 1. */
    private static ClubReads moody() {
        return plain("loath 51 b=0;like 30 b=1;come 0", 1, 2);
    }

    private static void run() {
        ClubReads x = moody();
        due("run(0, 0, 0)", x.run(0, 0, 0), 1);
        due("run(0, 0, 1)", x.run(0, 0, 1), 0);
        due("run(0, 0, 2)", x.run(0, 0, 2), 0);
        due("run(0, 0, 10)", x.run(0, 0, 10), 0);
        due("run(1, 0, 0)", x.run(1, 0, 0), 0);
        due("run(1, 0, 10)", x.run(1, 0, 10), -51);
        due("run(2, 0, 10)", x.run(2, 0, 10), -51);
        due("run(2, 0, 1)", x.run(2, 0, 1), 1);
        due("run(1, 1, 10)", x.run(1, 1, 10), 30);
        due("run(2, 1, 10)", x.run(2, 1, 10), -21);
        due("run(6, 1, 10)", x.run(6, 1, 10), -21);
        due("run(6, 1, 0)", x.run(6, 1, 0), 1);
        due("run(6, 1, 1)", x.run(6, 1, 1), 2);
        due("run(6, 1, 2)", x.run(6, 1, 2), 1);
        due("run(7, 1, 0)", x.run(7, 1, 0), -10002);
        due("run(-1, 1, 0)", x.run(-1, 1, 0), -10002);
        due("run(7, 6, 0)", x.run(7, 6, 0), FAR);
        due("run(7, 0, 3)", x.run(7, 0, 3), FAR);
        due("run(0, -1, 0)", x.run(0, -1, 0), FAR);
        due("run(0, 0, -1)", x.run(0, 0, -1), FAR);
        due("run(0, 0, 9)", x.run(0, 0, 9), FAR);
        due("run(0, 0, 11)", x.run(0, 0, 11), FAR);
        due("run(0, 0, LEAST)", x.run(0, 0, LEAST), FAR);
        due("run(0, 0, MOST)", x.run(0, 0, MOST), FAR);
        due("a run changes nothing", x.told(0) + x.of(0, 2) + x.at(0, 4) + x.at(1, 4), 0);
        due("nobody is gone", x.told(2), 1);
        ClubReads y = plain("come 5", 4, 1);
        y.book(0, 0, 0, 2);
        y.book(0, 0, 0, 2);
        y.book(0, 0, 0, 3);
        due("of one member", y.run(1, 0, 2), 1);
        due("of two members", y.run(2, 0, 2), 2);
        due("of two still", y.run(3, 0, 2), 2);
        due("of three", y.run(4, 0, 2), 3);
        due("all come", y.run(4, 0, 1), 16);
        y.had(3, true);
        due("had by hand counts", y.run(0, 0, 2), 1);
        ClubReads z = plain("come 5", 6, 0);
        z.book(0, 0, 0, 0);
        z.book(0, 0, 0, 5);
        due("of the first and the last", z.run(2, 0, 2), 2);
    }

    private static void best() {
        due("most here: points", moody().best(), 1);
        due("all alike", plain("come 5", 2, 3).best(), 0);
        // Each is gone by one row of the two books and at -21 by the other.
        ClubReads x = plain("loath 51 b=0&m=0;like 30 b=1&m=0;loath 51 b=1&m=1;like 30 b=0&m=1;come 0", 2, 2);
        due("hands: 0 is gone", x.run(6, 0, 0), 2);
        due("turns: 1 is gone", x.run(6, 5, 0), 1);
        due("of several the least", x.best(), 0);
        // Both stay by all ways; AWAY had better have book 0 in month 1, as hands do not choose.
        ClubReads y = Check.with("like 30 m=0&b=0;like 10 m=1&b=1;come 0");
        y.member(6, 0);
        y.member(0, 0);
        y.book(0, 0, 0, 0);
        y.book(0, 0, 0, 0);
        due("hands: both stay", y.run(6, 0, 0), 3);
        due("hands: AWAY", y.run(6, 0, 10), -10);
        due("points: AWAY", y.run(6, 1, 10), 20);
        due("the most GLAD", y.best(), 1);
        ClubReads z = moody();
        z.month(1);
        due("one book left", z.best(), 0);
        due("what is asked changes nothing", z.told(0), 1);
    }

    private static void row() {
        ClubReads x = moody();
        due("row(0)", x.row(0), 1);
        due("row(1)", x.row(1), 0);
        due("row(2)", x.row(2), -5);
        due("row(4)", x.row(4), -5);
        due("row(5)", x.row(5), -1);
        due("row(-1)", x.row(-1), -1);
        due("what is asked changes nothing", x.told(0) + x.of(0, 2) + x.at(0, 4), 0);
        for (int b = 2; b < 5; b++) {
            x.book(0, 0, 0, 0);
        }
        // GLAD is -21 at last in any case but where 0 comes ahead of 1: the first row with 1 ahead of 0.
        int[] due = {1, 0, 2, 3, 4};
        for (int k = 0; k < 5; k++) {
            due("of five, row(" + k + ")", x.row(k), due[k]);
        }
        x.book(0, 0, 0, 0);
        due("of six, row(0)", x.row(0), -9);
        due("of six, row(5)", x.row(5), -1);
        x.had(2, true);
        int[] then = {1, 0, 3, 4, 5};
        for (int k = 0; k < 5; k++) {
            due("of five again, row(" + k + ")", x.row(k), then[k]);
        }
        // AWAY is off in months 0, 2 and likes 2 most, which it had best have in month 1.
        ClubReads y = Check.with("like 40 b=2;come 1");
        y.member(6, 0);
        for (int b = 0; b < 3; b++) {
            y.book(0, 0, 0, 0);
        }
        int[] away = {0, 2, 1};
        for (int k = 0; k < 3; k++) {
            due("AWAY, row(" + k + ")", y.row(k), away[k]);
        }
    }

    private static void hand() {
        ClubReads x = new ClubReads();
        due("hand(-1)", x.hand(-1), 0);
        due("hand(-2)", x.hand(-2), -2);
        due("hand(13)", x.hand(13), -2);
        due("hand(0)", x.hand(0), 1);
        for (int i = 2; i <= 6; i++) {
            due("hand(12)", x.hand(12), i);
        }
        due("a 7th hand", x.hand(0), -4);
        due("a 7th bad hand", x.hand(13), -2);
        due("hands", x.count(3), 6);
        due("none then", x.hand(-1), 0);
        due("no hands", x.count(3), 0);
        due("a hand again", x.hand(3), 1);
    }

    private static void looked() {
        ClubReads x = plain(VOTE, 5, 3);
        due("nothing told", x.looked(), -5);
        // The hands are 2, 5, 3.
        x.hand(2);
        due("as told", x.looked(), -5);
        x.hand(4);
        due("another at 1", x.looked(), 1);
        x.hand(1);
        due("the first of two", x.looked(), 1);
        x.hand(9);
        x.had(1, true);
        // With 0 and 2 alone each has five hands.
        due("the hands of two books", x.looked(), 0);
        x.hand(-1);
        x.hand(5);
        x.hand(0);
        due("a had one is not looked at", x.looked(), -5);
        x.hand(5);
        x.hand(7);
        due("nor one that there is not", x.looked(), -5);
        x.had(0, true);
        due("one book has a hand of each", x.looked(), -5);
        x.hand(-1);
        x.hand(0);
        x.hand(0);
        x.hand(4);
        due("another at 2", x.looked(), 2);
    }

    private static void act(ClubReads x, int m, int act, int want, int... bodies) {
        String call = "act(" + m + ", " + act + ", 5)";
        due(call, x.act(m, act, 5), want);
        due(call + ": bodies", x.count(5), bodies.length);
        for (int i = 0; i < bodies.length; i++) {
            due(call + ": trace(" + i + ")", x.trace(i), bodies[i]);
        }
        due(call + ": behind them", x.trace(bodies.length), -1);
    }

    private static void act() {
        ClubReads x = new ClubReads();
        int[] v = {3, 2, 4, 1, 2, 6};
        for (int kind = 0; kind < 6; kind++) {
            x.member(kind, v[kind]);
        }
        act(x, 0, 0, 5, 1);
        act(x, 0, 1, 2, 2, 1);
        act(x, 0, 2, 4, 3, 2, 1);
        act(x, 1, 0, 16, 11, 1);
        act(x, 1, 1, 14, 2, 11, 1);
        act(x, 1, 2, 28, 3, 2, 11, 1);
        act(x, 2, 0, 7, 1);
        act(x, 2, 1, -3, 21, 2, 1);
        act(x, 2, 2, -6, 3, 21, 2, 1);
        act(x, 3, 0, 8, 1);
        act(x, 3, 1, 7, 2, 1);
        act(x, 3, 2, 9, 31, 3, 2, 1);
        act(x, 4, 0, 19, 11, 1);
        act(x, 4, 1, 17, 2, 11, 1);
        act(x, 4, 2, 38, 41, 3, 2, 11, 1, 11, 1);
        act(x, 5, 0, 15, 51, 1);
        act(x, 5, 1, -9, 21, 2, 51, 1);
        act(x, 5, 2, -18, 3, 21, 2, 51, 1);
        due("not or", x.act(5, 0, 1), 3);
        due("wrapping", x.act(1, 0, MOST), MOST - 1);
        due("wrapping below", x.act(2, 2, LEAST), 4);
        ClubReads y = new ClubReads();
        y.member(6, 9);
        act(y, 0, 0, 5, 1);
        act(y, 0, 1, 5, 61, 2, 1);
        act(y, 0, 2, 13, 31, 3, 61, 2, 1);
    }

    private static void trace() {
        ClubReads x = new ClubReads();
        x.member(4, 0);
        x.act(0, 2, 1);
        due("bodies", x.count(5), 7);
        due("trace(6)", x.trace(6), 1);
        due("trace(7)", x.trace(7), -1);
        due("trace(-1)", x.trace(-1), -1);
        due("trace(LEAST)", x.trace(LEAST), -1);
        due("trace(MOST)", x.trace(MOST), -1);
        due("no such act", x.act(0, 3, 1), 0);
        due("no trace then", x.count(5), 0);
        due("no trace then, at 0", x.trace(0), -1);
        x.act(0, 0, 1);
        due("bodies again", x.count(5), 2);
        due("act -1", x.act(0, -1, 1), 0);
        due("no trace then", x.count(5), 0);
        x.act(0, 0, 1);
        due("no such member", x.act(1, 0, 1), 0);
        due("no trace then", x.count(5), 0);
        x.act(0, 0, 1);
        due("no member -1", x.act(-1, 0, 1), 0);
        due("no trace then", x.count(5), 0);
    }

    private static void as() {
        ClubReads x = new ClubReads();
        for (int kind = 1; kind < 7; kind++) {
            x.member(kind, kind + 2);
        }
        int[] above = {0, 0, 0, 0, 1, 2, 3};
        for (int kind = 1; kind < 7; kind++) {
            for (int k = 0; k < 7; k++) {
                boolean is = k == 0 || k == kind || k == above[kind];
                due("kind " + kind + " as " + k, x.as(kind - 1, k), is ? kind + 2 : -6);
            }
        }
        due("as(6, 0)", x.as(6, 0), -1);
        due("as(-1, 0)", x.as(-1, 0), -1);
        due("as(0, 7)", x.as(0, 7), -1);
        due("as(0, -1)", x.as(0, -1), -1);
        ClubReads y = new ClubReads();
        y.member(0, 8);
        due("MEMBER as MEMBER", y.as(0, 0), 8);
        due("MEMBER as PAYING", y.as(0, 1), -6);
    }

    private static void image() {
        ClubReads x = new ClubReads();
        due("image of nobody", x.image(), 0);
        x.member(0, 0);
        x.member(1, 0);
        due("image()", x.image(), 2);
        x.member(2, 0);
        due("the latest image is undone to", x.undo(), 2);
    }

    private static void undo() {
        ClubReads x = plain("like 9 m=0;loath 60 b=2;come 0", 2, 2);
        due("no image", x.undo(), -3);
        x.hand(4);
        x.hand(5);
        Check.feed(x, "come 6");
        x.month(1);
        x.act(0, 1, 1);
        due("image()", x.image(), 2);
        x.act(0, 2, 1);
        x.hand(-1);
        x.hand(1);
        due("club()", x.club(), 1);
        Check.feed(x, "loath 70");
        x.member(5, 4);
        x.book(9, 9, 3, 2);
        x.month(2);
        x.had(1, false);
        due("come", x.told(1), 6);
        x.undo();
        x.club();
        Check.club(x, "read 4 m=1");
        due("reads", x.reads(1, 0), 9);
        x.member(5, 4);
        x.book(9, 9, 3, 2);
        x.hand(1);
        x.month(0);
        due("undo()", x.undo(), 2);
        due("members", x.count(0), 2);
        due("books", x.count(1), 2);
        due("clubs", x.count(2), 1);
        due("hands", x.count(3), 2);
        due("signs", x.count(4), 6);
        due("the trace is not of the image", x.count(5), 3);
        due("month", x.told(0), 1);
        due("come", x.told(1), 0);
        due("here", x.told(2), 3);
        due("open", x.told(3), 1);
        due("glad", x.of(0, 2), 9);
        due("like", x.like(0, 0), 59);
        due("no third book", x.like(0, 2), FAR);
        due("reads", x.reads(1, 0), 5);
        // The hands are 2 (one book for two members), 4 is told.
        due("looked()", x.looked(), 0);
        x.hand(-1);
        x.hand(2);
        due("looked() at others", x.looked(), -5);
        due("undo()", x.undo(), 2);
        due("looked() again", x.looked(), 0);
        due("the tape is as it was", x.club(), 1);
        due("come then", x.told(1), 6);
        due("like then", x.like(0, 0), 50);
        x.member(6, 3);
        due("a new third member", x.of(2, 0), 6);
        due("its GLAD", x.of(2, 2), 0);
        due("undo() again", x.undo(), 2);
        due("come again", x.told(1), 0);
        due("like again", x.like(0, 0), 59);
        due("a book behind undo", x.book(0, 0, 0, 1), 2);
        due("its LIKE", x.like(0, 2), -1);
        due("it is open", x.at(2, 4), 0);
    }

    private static void count() {
        ClubReads x = plain("come 5", 3, 2);
        Check.feed(x, "abcd");
        x.hand(1);
        x.act(0, 1, 0);
        int[] due = {3, 2, 1, 1, 4, 2};
        for (int what = 0; what < 6; what++) {
            due("count(" + what + ")", x.count(what), due[what]);
        }
        due("count(6)", x.count(6), -1);
        due("count(-1)", x.count(-1), -1);
    }

    private PromisesTest() {
    }
}
