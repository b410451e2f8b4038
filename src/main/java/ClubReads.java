/** What the club reads next: see README.md for its use. */
public final class ClubReads {
    public static final int NONE = -1, BAD = -2, STATE = -3, FULL = -4;
    public static final long NO = Long.MIN_VALUE;

    private static final int NO_BOOK = -5, OTHER_KIND = -6, TOO_MANY = -9, FAULT = -10;
    /** For answers that may be small numbers below 0 themselves. */
    private static final int FAR_NONE = -10001, FAR_BAD = -10002;
    private static final int MOST = 6, KINDS = 7, WAYS = 6, TAPE = 100, CLUBS = 5, MONTHS = 99;
    private static final int LONGEST_ROW = 5, ROWS = 120, LONGEST_RUN = 6, MOST_HANDS = 12;
    private static final int TRACED = 20;

    private final Votes votes = new Votes();
    /** Made by the votes over it, so that no constructor hands out a part of its own object. */
    private final Hall now = votes.hall;
    private final Hall kept = new Hall();
    private final Roll trial = new Roll();
    /** At 0 how many bodies ran, behind it the first of their numbers. */
    private final int[] bodies = new int[1 + TRACED];
    private final long[] chances = new long[MOST + 1];
    private final int[] bestBooks = new int[MOST];
    /** Reused by each club() till one succeeds, so that a FAULT makes nothing new. */
    private Club spare = new Club();
    private boolean hasImage = false;

    public ClubReads() {
    }

    // ---- clubs, members, books

    public int feed(int sign) {
        if (sign < 0 || sign > 127) {
            return BAD;
        }
        if (now.tapeSize >= TAPE) {
            return FULL;
        }
        now.tape[now.tapeSize] = sign;
        now.tapeSize++;
        return now.tapeSize;
    }

    public int club() {
        if (now.clubCount >= CLUBS) {
            return FULL;
        }
        boolean whole = spare.parse(now.tape, now.tapeSize);
        now.tapeSize = 0;
        if (!whole) {
            return FAULT - spare.place;
        }
        now.club = spare;
        spare = new Club();
        now.clubCount++;
        now.measureAll();
        return now.clubCount - 1;
    }

    public int member(int kind, int v) {
        if (kind < 0 || kind >= KINDS) {
            return NONE;
        }
        if (v < 0 || v > 9) {
            return BAD;
        }
        if (now.memberCount >= MOST) {
            return FULL;
        }
        now.addMember(newMember(kind, now.memberCount, v));
        return now.memberCount - 1;
    }

    private static Member newMember(int kind, int number, int v) {
        switch (kind) {
            case 1:
                return new Paying(kind, number, v);
            case 2:
                return new Proud(kind, number, v);
            case 3:
                return new ShortLiking(kind, number, v);
            case 4:
                return new Following(kind, number, v);
            case 5:
                return new Striking(kind, number, v);
            case 6:
                return new Away(kind, number, v);
            default:
                return new Member(kind, number, v);
        }
    }

    public int book(int pages, int mood, int sort, int by) {
        if (!isMember(by)) {
            return NONE;
        }
        if (pages < 0 || pages > 99 || mood < 0 || mood > 9 || sort < 0 || sort > 3) {
            return BAD;
        }
        if (now.bookCount >= MOST) {
            return FULL;
        }
        now.addBook(pages, mood, sort, by);
        return now.bookCount - 1;
    }

    public int of(int member, int what) {
        if (!isMember(member)) {
            return FAR_NONE;
        }
        switch (what) {
            case 0:
                return now.members[member].kind;
            case 1:
                return now.members[member].v;
            case 2:
                return now.roll.glad[member];
            case 3:
                return now.roll.isHere(member) ? 1 : 0;
            default:
                return FAR_NONE;
        }
    }

    public int at(int book, int what) {
        if (!isBook(book) || what < 0 || what > 4) {
            return NONE;
        }
        if (what == 4) {
            return now.roll.isHad(book) ? 1 : 0;
        }
        return now.books[book][what];
    }

    public int told(int what) {
        switch (what) {
            case 0:
                return now.roll.month;
            case 1:
                return now.club.come;
            case 2:
                return now.roll.here;
            case 3:
                return ((1 << now.bookCount) - 1) & ~now.roll.had;
            default:
                return NONE;
        }
    }

    public int had(int book, boolean is) {
        if (!isBook(book)) {
            return NONE;
        }
        boolean was = now.roll.isHad(book);
        now.roll.setHad(book, is);
        return was ? 1 : 0;
    }

    // ---- likes, orders, ways

    public int like(int member, int book) {
        if (!isMember(member) || !isBook(book)) {
            return FAR_NONE;
        }
        return now.likes[member][book];
    }

    public int order(int member, int what, int k) {
        if (!isMember(member) || what < 0 || what > 1 || k < 0 || k >= MOST) {
            return NONE;
        }
        votes.collect(now.roll);
        if (k >= votes.openCount || (what == 1 && !votes.speaks(member))) {
            return NO_BOOK;
        }
        return what == 0 ? votes.orders[member][k] : votes.said[member][k];
    }

    public int chosen(int way, int what) {
        if (!isWay(way) || what < 0 || what > 1) {
            return NONE;
        }
        votes.collect(now.roll);
        if (what == 1) {
            votes.speakTrue();
        }
        return votes.pick(way);
    }

    public int alone(int way) {
        if (!isWay(way)) {
            return NONE;
        }
        votes.collect(now.roll);
        if (votes.openCount > LONGEST_ROW) {
            return TOO_MANY;
        }
        int bits = 0;
        for (int m = 0; m < now.memberCount; m++) {
            if (now.roll.isHere(m) && votes.tellOtherwise(m, way, false) != NO_BOOK) {
                bits |= 1 << m;
            }
        }
        return bits;
    }

    public int gain(int member, int way) {
        if (!isMember(member) || !isWay(way)) {
            return NONE;
        }
        if (!now.roll.isHere(member)) {
            return STATE;
        }
        votes.collect(now.roll);
        if (votes.openCount > LONGEST_ROW) {
            return TOO_MANY;
        }
        return votes.tellOtherwise(member, way, true);
    }

    // ---- reading, months

    public int reads(int member, int book) {
        if (!isMember(member) || !isBook(book)) {
            return NONE;
        }
        return now.odds[member][book];
    }

    public int comes(int member, int book) {
        if (!isMember(member) || !isBook(book)) {
            return NONE;
        }
        return now.attends(member, book, now.roll.month) ? 1 : 0;
    }

    public long enough(int book, int k, int part) {
        if (!isBook(book) || k < 0 || k > MOST || part < 0 || part > 1) {
            return NO;
        }
        long below = spreadChances(book);
        long above = 0;
        for (int j = k; j <= MOST; j++) {
            above += chances[j];
        }
        long common = commonDivisor(above, below);
        if (common <= 0) {
            return NO;
        }
        return (part == 0 ? above : below) / common;
    }

    /** Fills chances[j], of the answered number in all, that just j members HERE read the book. */
    private long spreadChances(int book) {
        for (int j = 0; j <= MOST; j++) {
            chances[j] = j == 0 ? 1 : 0;
        }
        long all = 1;
        for (int m = 0; m < now.memberCount; m++) {
            if (now.roll.isHere(m)) {
                int odds = now.odds[m][book];
                for (int j = MOST; j > 0; j--) {
                    chances[j] = chances[j] * (10 - odds) + chances[j - 1] * odds;
                }
                chances[0] *= 10 - odds;
                all *= 10;
            }
        }
        return all;
    }

    private static long commonDivisor(long a, long b) {
        // Two steps halve at least one of two numbers of 20 bits.
        for (int step = 0; step < 100 && a != 0; step++) {
            long rest = b % a;
            b = a;
            a = rest;
        }
        return b;
    }

    public int month(int book) {
        if (!isBook(book)) {
            return NONE;
        }
        if (now.roll.isHad(book) || now.roll.month >= MONTHS) {
            return STATE;
        }
        return now.roll.passMonth(now, book);
    }

    public int by(int way) {
        if (!isWay(way)) {
            return NONE;
        }
        votes.collect(now.roll);
        if (votes.openCount == 0 || now.roll.month >= MONTHS) {
            return STATE;
        }
        int book = votes.pick(way);
        now.roll.passMonth(now, book);
        return book;
    }

    public int run(int n, int way, int what) {
        boolean isGlad = what >= 10 && what < 10 + now.memberCount;
        if (!isWay(way) || (!isGlad && (what < 0 || what > 2))) {
            return FAR_NONE;
        }
        if (n < 0 || n > LONGEST_RUN) {
            return FAR_BAD;
        }
        int came = tryMonths(n, way);
        switch (what) {
            case 0:
                return trial.here;
            case 1:
                return came;
            case 2:
                return Integer.bitCount(now.putForward(trial));
            default:
                return isGlad ? trial.glad[what - 10] : FAR_NONE;
        }
    }

    /** Leaves in the trial what is behind n MONTHS by the WAY: how often one has COME. */
    private int tryMonths(int n, int way) {
        trial.copyFrom(now.roll);
        int came = 0;
        for (int i = 0; i < n; i++) {
            votes.collect(trial);
            if (votes.openCount == 0) {
                break;
            }
            came += trial.passMonth(now, votes.pick(way));
        }
        return came;
    }

    public int best() {
        int best = 0;
        int mostHere = -1;
        int mostGlad = 0;
        for (int way = 0; way < WAYS; way++) {
            tryMonths(LONGEST_RUN, way);
            if (trial.isBetter(mostHere, mostGlad)) {
                best = way;
                mostHere = trial.countHere();
                mostGlad = trial.sumGlad();
            }
        }
        return best;
    }

    public int row(int k) {
        if (k < 0 || k >= LONGEST_ROW) {
            return NONE;
        }
        votes.collect(now.roll);
        if (votes.openCount > LONGEST_ROW) {
            return TOO_MANY;
        }
        if (k >= votes.openCount) {
            return NO_BOOK;
        }
        findBestRow();
        return bestBooks[k];
    }

    private void findBestRow() {
        int mostHere = -1;
        int mostGlad = 0;
        boolean more = true;
        votes.startRows();
        for (int r = 0; r < ROWS && more; r++) {
            trial.copyFrom(now.roll);
            for (int i = 0; i < votes.openCount; i++) {
                trial.passMonth(now, votes.tried[i]);
            }
            if (trial.isBetter(mostHere, mostGlad)) {
                mostHere = trial.countHere();
                mostGlad = trial.sumGlad();
                System.arraycopy(votes.tried, 0, bestBooks, 0, MOST);
            }
            more = votes.nextRow();
        }
    }

    // ---- hands

    public int hand(int n) {
        if (n < -1 || n > MOST_HANDS) {
            return BAD;
        }
        if (n == -1) {
            now.handCount = 0;
            return 0;
        }
        if (now.handCount >= MOST) {
            return FULL;
        }
        now.hands[now.handCount] = n;
        now.handCount++;
        return now.handCount;
    }

    public int looked() {
        votes.collect(now.roll);
        for (int i = 0; i < votes.openCount; i++) {
            int book = votes.open[i];
            if (book < now.handCount && now.hands[book] != votes.hands[book]) {
                return book;
            }
        }
        return NO_BOOK;
    }

    // ---- acts, the image

    public int act(int member, int act, int x) {
        bodies[0] = 0;
        if (!isMember(member)) {
            return 0;
        }
        switch (act) {
            case 0:
                return now.members[member].wish(x, bodies);
            case 1:
                return now.members[member].readOn(x, bodies);
            case 2:
                return now.members[member].talk(x, bodies);
            default:
                return 0;
        }
    }

    public int trace(int i) {
        if (i < 0 || i >= TRACED || i >= bodies[0]) {
            return NONE;
        }
        return bodies[1 + i];
    }

    public int as(int member, int k) {
        if (!isMember(member) || k < 0 || k >= KINDS) {
            return NONE;
        }
        Member one = now.members[member];
        return one.isOfKind(k) ? one.v : OTHER_KIND;
    }

    public int image() {
        kept.copyFrom(now);
        hasImage = true;
        return now.memberCount;
    }

    public int undo() {
        if (!hasImage) {
            return STATE;
        }
        now.copyFrom(kept);
        return now.memberCount;
    }

    public int count(int what) {
        switch (what) {
            case 0:
                return now.memberCount;
            case 1:
                return now.bookCount;
            case 2:
                return now.clubCount;
            case 3:
                return now.handCount;
            case 4:
                return now.tapeSize;
            case 5:
                return bodies[0];
            default:
                return NONE;
        }
    }

    private boolean isMember(int m) {
        return m >= 0 && m < now.memberCount;
    }

    private boolean isBook(int b) {
        return b >= 0 && b < now.bookCount;
    }

    private static boolean isWay(int way) {
        return way >= 0 && way < WAYS;
    }

    /** A member of KIND 0, and what all KINDS share; it never changes, so images may share it. */
    private static class Member {
        final int kind;
        final int number;
        final int v;

        Member(int kind, int number, int v) {
            this.kind = kind;
            this.number = number;
            this.v = v;
        }

        boolean isOfKind(int k) {
            switch (k) {
                case 0:
                    return true;
                case 1:
                    return this instanceof Paying;
                case 2:
                    return this instanceof Proud;
                case 3:
                    return this instanceof ShortLiking;
                default:
                    return kind == k;
            }
        }

        int extraLike(boolean own, int pages) {
            return 0;
        }

        int oddsOf(int full) {
            return full;
        }

        boolean staysAway(int month) {
            return false;
        }

        void say(Votes votes, int[] row) {
            votes.putOrder(number, row);
        }

        int wish(int x, int[] bodies) {
            begin(1, bodies);
            return x + number;
        }

        int readOn(int x, int[] bodies) {
            begin(2, bodies);
            return wish(x, bodies) - v;
        }

        int talk(int x, int[] bodies) {
            begin(3, bodies);
            return readOn(x, bodies) * 2;
        }

        static void begin(int body, int[] bodies) {
            bodies[0]++;
            if (bodies[0] < bodies.length) {
                bodies[bodies[0]] = body;
            }
        }
    }

    private static class Paying extends Member {
        Paying(int kind, int number, int v) {
            super(kind, number, v);
        }

        void say(Votes votes, int[] row) {
            votes.putOrder(number, row);
            if (row[0] != votes.favourite) {
                votes.putLast(votes.favourite, row);
            }
        }

        int wish(int x, int[] bodies) {
            begin(11, bodies);
            return super.wish(x * 3, bodies);
        }
    }

    private static class Proud extends Member {
        Proud(int kind, int number, int v) {
            super(kind, number, v);
        }

        int extraLike(boolean own, int pages) {
            return own ? 5 * v : 0;
        }

        int readOn(int x, int[] bodies) {
            begin(21, bodies);
            return -super.readOn(x, bodies);
        }
    }

    private static class ShortLiking extends Member {
        ShortLiking(int kind, int number, int v) {
            super(kind, number, v);
        }

        int extraLike(boolean own, int pages) {
            return -(pages / 2);
        }

        int talk(int x, int[] bodies) {
            begin(31, bodies);
            return super.talk(x, bodies) ^ 7;
        }
    }

    private static final class Following extends Paying {
        Following(int kind, int number, int v) {
            super(kind, number, v);
        }

        void say(Votes votes, int[] row) {
            if (v != number && votes.isHere(v)) {
                votes.putOrder(v, row);
            } else {
                super.say(votes, row);
            }
        }

        int talk(int x, int[] bodies) {
            begin(41, bodies);
            return super.talk(x - 1, bodies) + wish(2, bodies);
        }
    }

    private static final class Striking extends Proud {
        Striking(int kind, int number, int v) {
            super(kind, number, v);
        }

        void say(Votes votes, int[] row) {
            votes.putOrder(number, row);
            votes.putLast(v, row);
        }

        int wish(int x, int[] bodies) {
            begin(51, bodies);
            return super.wish(x, bodies) ^ number;
        }
    }

    private static final class Away extends ShortLiking {
        Away(int kind, int number, int v) {
            super(kind, number, v);
        }

        int oddsOf(int full) {
            return full / 2;
        }

        boolean staysAway(int month) {
            int pause = v + 2;
            return pause > 0 && month % pause == 0;
        }

        int readOn(int x, int[] bodies) {
            begin(61, bodies);
            return super.readOn(x, bodies) + v;
        }
    }

    /** A text of CLAUSES; each E is kept as a row of codes, with ! & | behind what they join. */
    private static final class Club {
        static final int LIKE = 0, LOATH = 1, READ = 2, COME = 3;
        static final int CLAUSES = 10, DEEPEST = 5;
        static final int NOT = -1, AND = -2, OR = -3;

        int come = 5;
        /** How far the parser came: the FAULT, if it failed. */
        int place = 0;
        private int clauseCount = 0;
        private int codeCount = 0;
        private final int[] words = new int[CLAUSES];
        private final int[] numbers = new int[CLAUSES];
        /** Where a clause's codes end; they begin where those of the clause ahead end. */
        private final int[] ends = new int[CLAUSES];
        private final int[] codes = new int[TAPE];
        /** The tape while it is read; any row at first, to keep null out. */
        private int[] text = codes;
        private int size = 0;

        boolean parse(int[] tape, int tapeSize) {
            text = tape;
            size = Math.min(tapeSize, tape.length);
            place = 0;
            come = 5;
            clauseCount = 0;
            codeCount = 0;
            for (int i = 0; i < CLAUSES; i++) {
                if (!parseClause(i)) {
                    return false;
                }
                clauseCount = i + 1;
                if (place == size) {
                    return true;
                }
                if (i == CLAUSES - 1 || !take(';')) {
                    return false;
                }
            }
            return false;
        }

        private int peek() {
            return place < size ? text[place] : -1;
        }

        private boolean take(int sign) {
            if (peek() != sign) {
                return false;
            }
            place++;
            return true;
        }

        private boolean takeAll(String signs) {
            for (int i = 0; i < signs.length(); i++) {
                if (!take(signs.charAt(i))) {
                    return false;
                }
            }
            return true;
        }

        private boolean parseClause(int i) {
            int word = parseWord();
            if (word < 0 || !take(' ')) {
                return false;
            }
            int n = parseNumber();
            if (n < 0) {
                return false;
            }
            if (word == COME) {
                come = n;
            } else if (!take(' ') || !parseAny(0)) {
                return false;
            }
            words[i] = word;
            numbers[i] = n;
            ends[i] = codeCount;
            return true;
        }

        private int parseWord() {
            switch (peek()) {
                case 'r':
                    return takeAll("read") ? READ : -1;
                case 'c':
                    return takeAll("come") ? COME : -1;
                case 'l':
                    place++;
                    if (peek() == 'i') {
                        return takeAll("ike") ? LIKE : -1;
                    }
                    return takeAll("oath") ? LOATH : -1;
                default:
                    return -1;
            }
        }

        private int parseNumber() {
            int first = peek() - '0';
            if (first < 0 || first > 9) {
                return -1;
            }
            place++;
            int second = peek() - '0';
            if (first == 0 || second < 0 || second > 9) {
                return first;
            }
            place++;
            return first * 10 + second;
        }

        /** E, within so many open ! and ( . A & joins as soon as its second F has come, a | with its second T. */
        private boolean parseAny(int open) {
            boolean joinsAll = false;
            boolean joinsAny = false;
            for (int i = 0; i < TAPE; i++) {
                if (!parseOne(open)) {
                    return false;
                }
                if (joinsAll) {
                    put(AND);
                }
                joinsAll = take('&');
                if (!joinsAll) {
                    if (joinsAny) {
                        put(OR);
                    }
                    joinsAny = take('|');
                    if (!joinsAny) {
                        return true;
                    }
                }
            }
            return false;
        }

        /** F, likewise. */
        private boolean parseOne(int open) {
            int sign = peek();
            if (sign != '!' && sign != '(') {
                return parseTest();
            }
            if (open >= DEEPEST) {
                return false;
            }
            place++;
            if (sign == '(') {
                return parseAny(open + 1) && take(')');
            }
            if (!parseOne(open + 1)) {
                return false;
            }
            put(NOT);
            return true;
        }

        private boolean parseTest() {
            int which = parseSign("mkbpos");
            if (which < 0) {
                return false;
            }
            int relation = parseSign("<=>");
            if (relation < 0) {
                return false;
            }
            int number = parseNumber();
            if (number < 0) {
                return false;
            }
            put((which * 3 + relation) * 100 + number);
            return true;
        }

        /** Which one of the signs comes; -1: none of them. */
        private int parseSign(String signs) {
            int sign = peek();
            for (int i = 0; i < signs.length(); i++) {
                if (signs.charAt(i) == sign) {
                    place++;
                    return i;
                }
            }
            return -1;
        }

        private void put(int code) {
            if (codeCount < codes.length) {
                codes[codeCount] = code;
                codeCount++;
            }
        }

        /** The n of all clauses of the word whose E holds, together. */
        int sum(int word, int[] facts) {
            int sum = 0;
            for (int i = 0; i < clauseCount; i++) {
                if (words[i] == word && holds(i == 0 ? 0 : ends[i - 1], ends[i], facts)) {
                    sum += numbers[i];
                }
            }
            return sum;
        }

        private boolean holds(int from, int to, int[] facts) {
            // The stack's top is the lowest bit; with 5 open at most it stays far below 32 bits.
            int stack = 0;
            for (int i = from; i < to; i++) {
                int code = codes[i];
                if (code >= 0) {
                    stack = (stack << 1) | (testHolds(code, facts) ? 1 : 0);
                } else if (code == NOT) {
                    stack ^= 1;
                } else {
                    int top = stack & 1;
                    stack >>= 1;
                    stack = code == AND ? stack & (-2 | top) : stack | top;
                }
            }
            return (stack & 1) != 0;
        }

        private static boolean testHolds(int code, int[] facts) {
            int which = code / 300;
            if (which < 0 || which >= facts.length) {
                return false;
            }
            int fact = facts[which];
            int number = code % 100;
            switch (code / 100 % 3) {
                case 0:
                    return fact < number;
                case 1:
                    return fact == number;
                default:
                    return fact > number;
            }
        }
    }

    /** What a MONTH changes. */
    private static final class Roll {
        int month = 0;
        int here = 0;
        int had = 0;
        final int[] glad = new int[MOST];

        void copyFrom(Roll other) {
            month = other.month;
            here = other.here;
            had = other.had;
            System.arraycopy(other.glad, 0, glad, 0, MOST);
        }

        boolean isHere(int m) {
            return (here >> m & 1) != 0;
        }

        boolean isHad(int b) {
            return (had >> b & 1) != 0;
        }

        void setHad(int b, boolean is) {
            had = is ? had | 1 << b : had & ~(1 << b);
        }

        void enter(int m) {
            glad[m] = 0;
            here |= 1 << m;
        }

        /** A MONTH with the book: how many COME. */
        int passMonth(Hall hall, int book) {
            int came = 0;
            setHad(book, true);
            for (int m = 0; m < hall.memberCount; m++) {
                if (isHere(m)) {
                    if (hall.attends(m, book, month)) {
                        came++;
                        glad[m] += hall.likes[m][book] - 50;
                    } else {
                        glad[m] -= 10;
                    }
                    if (glad[m] < -50) {
                        here &= ~(1 << m);
                    }
                }
            }
            month++;
            return came;
        }

        int countHere() {
            return Integer.bitCount(here);
        }

        int sumGlad() {
            int sum = 0;
            for (int m = 0; m < MOST; m++) {
                if (isHere(m)) {
                    sum += glad[m];
                }
            }
            return sum;
        }

        boolean isBetter(int mostHere, int mostGlad) {
            int count = countHere();
            return count > mostHere || (count == mostHere && sumGlad() > mostGlad);
        }
    }

    /** All that THE IMAGE keeps, with LIKE and READS, which only change with what is added. */
    private static final class Hall {
        final Roll roll = new Roll();
        final Member[] members = new Member[MOST];
        int memberCount = 0;
        /** Of each book PAGES, MOOD, SORT, BY. */
        final int[][] books = new int[MOST][4];
        int bookCount = 0;
        Club club = new Club();
        int clubCount = 0;
        final int[] tape = new int[TAPE];
        int tapeSize = 0;
        final int[] hands = new int[MOST];
        int handCount = 0;
        final int[][] likes = new int[MOST][MOST];
        final int[][] odds = new int[MOST][MOST];
        /** What the tests m k b p o s look at. */
        private final int[] facts = new int[6];

        Hall() {
            // A stand-in at every place keeps null out.
            Member nobody = new Member(0, 0, 0);
            for (int m = 0; m < MOST; m++) {
                members[m] = nobody;
            }
        }

        void copyFrom(Hall other) {
            roll.copyFrom(other.roll);
            for (int i = 0; i < MOST; i++) {
                members[i] = other.members[i];
                System.arraycopy(other.books[i], 0, books[i], 0, 4);
                System.arraycopy(other.likes[i], 0, likes[i], 0, MOST);
                System.arraycopy(other.odds[i], 0, odds[i], 0, MOST);
            }
            memberCount = other.memberCount;
            bookCount = other.bookCount;
            club = other.club;
            clubCount = other.clubCount;
            System.arraycopy(other.tape, 0, tape, 0, TAPE);
            tapeSize = other.tapeSize;
            System.arraycopy(other.hands, 0, hands, 0, MOST);
            handCount = other.handCount;
        }

        void addMember(Member member) {
            members[memberCount] = member;
            roll.enter(memberCount);
            memberCount++;
            measureAll();
        }

        void addBook(int pages, int mood, int sort, int by) {
            int[] book = books[bookCount];
            book[0] = pages;
            book[1] = mood;
            book[2] = sort;
            book[3] = by;
            roll.setHad(bookCount, false);
            bookCount++;
            measureAll();
        }

        void measureAll() {
            for (int m = 0; m < memberCount; m++) {
                for (int b = 0; b < bookCount; b++) {
                    measure(m, b);
                }
            }
        }

        private void measure(int m, int b) {
            Member member = members[m];
            int pages = books[b][0];
            boolean own = books[b][3] == m;
            facts[0] = m;
            facts[1] = member.kind;
            facts[2] = b;
            facts[3] = pages / 10;
            facts[4] = books[b][1];
            facts[5] = books[b][2];
            int like = 50 + club.sum(Club.LIKE, facts) - club.sum(Club.LOATH, facts)
                + member.extraLike(own, pages);
            int full = 3 + like / 20 + club.sum(Club.READ, facts);
            likes[m][b] = like;
            odds[m][b] = own ? 10 : Math.max(0, Math.min(10, member.oddsOf(full)));
        }

        boolean attends(int m, int b, int month) {
            return odds[m][b] >= club.come && !members[m].staysAway(month);
        }

        /** The members of whom a book is HAD, as bits. */
        int putForward(Roll then) {
            int bits = 0;
            for (int b = 0; b < bookCount; b++) {
                if (then.isHad(b)) {
                    bits |= 1 << books[b][3];
                }
            }
            return bits;
        }
    }

    /** The orders of all members at one time, and the WAYS over them. */
    private static final class Votes {
        final Hall hall = new Hall();
        private Roll roll = hall.roll;
        final int[] open = new int[MOST];
        int openCount = 0;
        final int[][] orders = new int[MOST][MOST];
        final int[][] said = new int[MOST][MOST];
        /** The members whose row in said counts, as bits. */
        private int speakers = 0;
        /** The book that is first in the ORDER of the most members HERE. */
        int favourite = NO_BOOK;
        /** Of the rows that count: hands, points and firsts of each book. */
        final int[] hands = new int[MOST];
        private final int[] points = new int[MOST];
        private final int[] firsts = new int[MOST];
        /** In how many more of these a book is ahead of another than behind it. */
        private final int[][] leads = new int[MOST][MOST];
        /** The row of OPEN books that is tried. */
        final int[] tried = new int[MOST];
        private final int[] saidBefore = new int[MOST];

        void collect(Roll then) {
            roll = then;
            listOpen();
            for (int m = 0; m < hall.memberCount; m++) {
                sortOpen(hall.likes[m], orders[m]);
            }
            favourite = findFavourite();
            clearTallies();
            if (openCount == 0) {
                return;
            }
            for (int m = 0; m < hall.memberCount; m++) {
                if (roll.isHere(m) && !hall.members[m].staysAway(roll.month)) {
                    hall.members[m].say(this, said[m]);
                    hear(m);
                }
            }
        }

        /** All HERE say their ORDER, in place of what has been collected. */
        void speakTrue() {
            clearTallies();
            for (int m = 0; m < hall.memberCount; m++) {
                if (roll.isHere(m)) {
                    putOrder(m, said[m]);
                    hear(m);
                }
            }
        }

        private void listOpen() {
            openCount = 0;
            for (int b = 0; b < hall.bookCount; b++) {
                if (!roll.isHad(b)) {
                    open[openCount] = b;
                    openCount++;
                }
            }
        }

        private void sortOpen(int[] likes, int[] row) {
            for (int i = 0; i < openCount; i++) {
                int book = open[i];
                int k = i;
                while (k > 0 && likes[row[k - 1]] < likes[book]) {
                    row[k] = row[k - 1];
                    k--;
                }
                row[k] = book;
            }
        }

        private int findFavourite() {
            int best = NO_BOOK;
            int most = -1;
            for (int i = 0; i < openCount; i++) {
                int count = 0;
                for (int m = 0; m < hall.memberCount; m++) {
                    if (roll.isHere(m) && orders[m][0] == open[i]) {
                        count++;
                    }
                }
                if (count > most) {
                    most = count;
                    best = open[i];
                }
            }
            return best;
        }

        boolean speaks(int m) {
            return (speakers >> m & 1) != 0;
        }

        boolean isHere(int m) {
            return m >= 0 && m < hall.memberCount && roll.isHere(m);
        }

        void putOrder(int m, int[] row) {
            System.arraycopy(orders[m], 0, row, 0, MOST);
        }

        /** Puts the book, if it is in the row, behind all others. */
        void putLast(int book, int[] row) {
            for (int k = 0; k + 1 < openCount; k++) {
                if (row[k] == book) {
                    row[k] = row[k + 1];
                    row[k + 1] = book;
                }
            }
        }

        private void clearTallies() {
            speakers = 0;
            for (int b = 0; b < MOST; b++) {
                hands[b] = 0;
                points[b] = 0;
                firsts[b] = 0;
                for (int other = 0; other < MOST; other++) {
                    leads[b][other] = 0;
                }
            }
        }

        private void hear(int m) {
            speakers |= 1 << m;
            tally(said[m], 1);
        }

        /** Counts a row (by 1), or takes it back (by -1). */
        private void tally(int[] row, int by) {
            for (int k = 0; k < openCount; k++) {
                int book = row[k];
                points[book] += by * (openCount - 1 - k);
                if (k == 0) {
                    firsts[book] += by;
                }
                if (k < 2) {
                    hands[book] += by;
                }
                for (int behind = k + 1; behind < openCount; behind++) {
                    leads[book][row[behind]] += by;
                    leads[row[behind]][book] -= by;
                }
            }
        }

        /** The OPEN book that has the most, but for one. */
        private int mostOf(int[] counts, int but) {
            int best = NO_BOOK;
            for (int i = 0; i < openCount; i++) {
                int book = open[i];
                if (book != but && (best < 0 || counts[book] > counts[best])) {
                    best = book;
                }
            }
            return best;
        }

        /** The book by the WAY; -5: none is OPEN. */
        int pick(int way) {
            if (openCount == 0) {
                return NO_BOOK;
            }
            switch (way) {
                case 0:
                    return mostOf(hands, NO_BOOK);
                case 1:
                    return mostOf(points, NO_BOOK);
                case 2:
                    return mostOf(firsts, NO_BOOK);
                case 3:
                    return pickRounds();
                case 4:
                    return pickPairs();
                default:
                    return pickTurns();
            }
        }

        private int pickRounds() {
            int one = mostOf(firsts, NO_BOOK);
            int other = mostOf(firsts, one);
            if (one < 0 || other < 0) {
                return one;
            }
            int lead = leads[one][other];
            if (lead == 0) {
                return Math.min(one, other);
            }
            return lead > 0 ? one : other;
        }

        private int pickPairs() {
            for (int i = 0; i < openCount; i++) {
                boolean ahead = true;
                for (int j = 0; j < openCount && ahead; j++) {
                    ahead = j == i || leads[open[i]][open[j]] > 0;
                }
                if (ahead) {
                    return open[i];
                }
            }
            return mostOf(points, NO_BOOK);
        }

        private int pickTurns() {
            int count = roll.countHere();
            if (count <= 0) {
                return open[0];
            }
            int place = roll.month % count;
            for (int m = 0; m < hall.memberCount; m++) {
                if (roll.isHere(m)) {
                    if (place == 0) {
                        return speaks(m) ? said[m][0] : orders[m][0];
                    }
                    place--;
                }
            }
            return open[0];
        }

        /** The first book but the one CHOSEN by an order told (if it gains, with more LIKE); -5: none. */
        int tellOtherwise(int m, int way, boolean gains) {
            int usual = pick(way);
            if (usual < 0) {
                return NO_BOOK;
            }
            boolean spoke = speaks(m);
            silence(m);
            speakers |= 1 << m;
            int[] likes = hall.likes[m];
            int found = NO_BOOK;
            boolean more = true;
            startRows();
            for (int r = 0; r < ROWS && more && found == NO_BOOK; r++) {
                System.arraycopy(tried, 0, said[m], 0, MOST);
                tally(tried, 1);
                int book = pick(way);
                tally(tried, -1);
                if (book >= 0 && (gains ? likes[book] > likes[usual] : book != usual)) {
                    found = book;
                }
                more = nextRow();
            }
            speakers &= ~(1 << m);
            System.arraycopy(saidBefore, 0, said[m], 0, MOST);
            if (spoke) {
                hear(m);
            }
            return found;
        }

        /** Takes back what a member says, which is kept aside. */
        private void silence(int m) {
            System.arraycopy(said[m], 0, saidBefore, 0, MOST);
            if (speaks(m)) {
                speakers &= ~(1 << m);
                tally(said[m], -1);
            }
        }

        /** The first row of all OPEN books. */
        void startRows() {
            System.arraycopy(open, 0, tried, 0, MOST);
        }

        /** Goes on to the next row; false: that was the last. */
        boolean nextRow() {
            int left = openCount - 2;
            while (left >= 0 && tried[left] > tried[left + 1]) {
                left--;
            }
            if (left < 0) {
                return false;
            }
            int right = openCount - 1;
            while (right > left && tried[right] < tried[left]) {
                right--;
            }
            swap(left, right);
            int from = left + 1;
            int to = openCount - 1;
            while (from < to) {
                swap(from, to);
                from++;
                to--;
            }
            return true;
        }

        private void swap(int i, int j) {
            int book = tried[i];
            tried[i] = tried[j];
            tried[j] = book;
        }
    }
}
