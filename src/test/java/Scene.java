/** States of an object from which the edges are tried; each is made by well under 300 calls. */
enum Scene {
    /** A new object. */
    EMPTY,
    /** A little of everything, and an image that is not as all is now. */
    SOME,
    /** No room for a member, book, club, sign or hand; six books are OPEN. */
    FULL,
    /** Six members in MONTH 1, five books OPEN. */
    FIVE,
    /** 99 MONTHS gone, two of three books OPEN. */
    SPENT,
    /** Everybody is gone, two of three books OPEN. */
    GONE,
    /** Every book is HAD, everybody is HERE. */
    READ;

    /** A club of just 100 bytes. */
    static final String LONGEST = "come 3;come 2;come 3;come 2;come 3;come 2;come 3;come 2;come 3;"
        + "like 7 m=10|m=11|m=12|m=1|m=2|m=3|m=4";

    ClubReads make() {
        switch (this) {
            case SOME:
                return some();
            case FULL:
                return full();
            case FIVE:
                ClubReads five = people("like 30 b=0&m<3;loath 20 m=1&b=1;like 9 m>3&b=2;come 4");
                shelf(five);
                five.month(4);
                five.image();
                return five;
            case SPENT:
                return spent();
            case GONE:
                ClubReads gone = few("loath 99 m<9;come 0");
                gone.month(1);
                return gone;
            case READ:
                ClubReads read = few("like 30 b=0&m=1;come 4");
                for (int b = 0; b < 3; b++) {
                    read.had(b, true);
                }
                return read;
            default:
                return new ClubReads();
        }
    }

    private static ClubReads some() {
        ClubReads x = Check.with("like 30 b=0;loath 20 m=1&b=1;come 4");
        x.member(1, 2);
        x.member(2, 6);
        x.book(20, 6, 0, 0);
        x.book(81, 1, 2, 1);
        Check.feed(x, "come 6");
        x.hand(2);
        x.image();
        x.member(6, 1);
        x.book(45, 7, 3, 2);
        Check.feed(x, ";come 7");
        x.month(1);
        x.hand(0);
        x.act(1, 2, 5);
        return x;
    }

    /** Six members of KINDS 1 to 6 and a club. */
    private static ClubReads people(String club) {
        ClubReads x = Check.with(club);
        for (int m = 0; m < 6; m++) {
            x.member(m + 1, m);
        }
        return x;
    }

    private static void shelf(ClubReads x) {
        for (int b = 0; b < 6; b++) {
            x.book(b * 19, 9 - b, b % 4, b);
        }
    }

    private static ClubReads full() {
        ClubReads x = people("like 30 b=0;come 4");
        shelf(x);
        for (int club = 1; club < 4; club++) {
            Check.club(x, "like 40 b=1&m<4;come 2");
        }
        Check.feed(x, LONGEST);
        for (int i = 0; i < 6; i++) {
            x.hand(i);
        }
        x.image();
        x.club();
        Check.feed(x, LONGEST);
        x.act(3, 2, 9);
        return x;
    }

    /** Three members and three books of the first. */
    private static ClubReads few(String club) {
        ClubReads x = Check.with(club);
        for (int i = 0; i < 3; i++) {
            x.member(0, 0);
        }
        for (int i = 0; i < 3; i++) {
            x.book(0, 0, 0, 0);
        }
        return x;
    }

    private static ClubReads spent() {
        ClubReads x = few("like 30 b=0&m=1;come 4");
        for (int month = 0; month < 98; month++) {
            x.month(1);
            x.had(1, false);
        }
        x.month(1);
        return x;
    }
}
