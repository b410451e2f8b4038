/** Counts the answers that are not as due, and ends a test. */
final class Check {
    private final String name;
    private int asked = 0;
    private int wrong = 0;

    Check(String name) {
        this.name = name;
    }

    void due(String call, long got, long want) {
        asked++;
        if (got != want) {
            wrong++;
            System.out.println(call + " answered " + got + ", due is " + want);
        }
    }

    void holds(String what, boolean is) {
        asked++;
        if (!is) {
            wrong++;
            System.out.println("does not hold: " + what);
        }
    }

    int wrong() {
        return wrong;
    }

    void end() {
        System.out.println(name + ": " + asked + " asked, " + wrong + " wrong");
        if (wrong != 0 || asked == 0) {
            System.exit(1);
        }
    }

    /** Puts a text on the tape of x. */
    static void feed(ClubReads x, String text) {
        for (int i = 0; i < text.length(); i++) {
            x.feed(text.charAt(i));
        }
    }

    /** What club() answers to a text. */
    static int club(ClubReads x, String text) {
        feed(x, text);
        return x.club();
    }

    /** A new object with a club, members of KIND 0 and books without anything, BY 0. */
    static ClubReads plain(String club, int members, int books) {
        ClubReads x = with(club);
        for (int i = 0; i < members; i++) {
            x.member(0, 0);
        }
        addBooks(x, books);
        return x;
    }

    /** Books without anything, BY 0. */
    static void addBooks(ClubReads x, int books) {
        for (int i = 0; i < books; i++) {
            x.book(0, 0, 0, 0);
        }
    }

    /** A new object with a club. */
    static ClubReads with(String club) {
        ClubReads x = new ClubReads();
        if (club(x, club) != 0) {
            throw new IllegalStateException("no club: " + club);
        }
        return x;
    }
}
