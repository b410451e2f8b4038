/**
 * All that can be seen of an object, as a text. It takes several objects in the same state, one for
 * each part, so that none is asked more often than the document promises answers for.
 */
final class Look {
    static final int PARTS = 5;

    static String at(ClubReads x, int part) {
        StringBuilder seen = new StringBuilder();
        switch (part) {
            case 0:
                things(x, seen);
                break;
            case 1:
                votes(x, seen);
                break;
            case 2:
                see(seen, "undo()", x.undo());
                things(x, seen);
                break;
            case 3:
                tape(x, seen);
                break;
            default:
                see(seen, "undo()", x.undo());
                tape(x, seen);
                break;
        }
        return seen.toString();
    }

    private static void see(StringBuilder seen, String what, long answer) {
        seen.append(what).append(' ').append(answer).append('\n');
    }

    private static void things(ClubReads x, StringBuilder seen) {
        for (int i = 0; i < 6; i++) {
            for (int what = 0; what < 5; what++) {
                see(seen, "of", x.of(i, what));
                see(seen, "at", x.at(i, what));
            }
            for (int b = 0; b < 6; b++) {
                see(seen, "reads", x.reads(i, b));
                see(seen, "comes", x.comes(i, b));
            }
            see(seen, "told", x.told(i));
            see(seen, "count", x.count(i));
        }
        for (int i = 0; i < 8; i++) {
            see(seen, "trace", x.trace(i));
        }
        see(seen, "looked", x.looked());
    }

    private static void votes(ClubReads x, StringBuilder seen) {
        for (int m = 0; m < 6; m++) {
            for (int b = 0; b < 6; b++) {
                see(seen, "like", x.like(m, b));
                see(seen, "says", x.order(m, 1, b));
            }
            see(seen, "first", x.order(m, 0, 0));
            see(seen, "gain", x.gain(m, m));
            see(seen, "enough", x.enough(m, 3, 0));
        }
        for (int way = 0; way < 6; way++) {
            see(seen, "chosen", x.chosen(way, 0));
            see(seen, "true", x.chosen(way, 1));
            see(seen, "alone", x.alone(way));
            see(seen, "run", x.run(6, way, 0));
            see(seen, "come", x.run(4, way, 1));
            see(seen, "glad", x.run(3, way, 10));
        }
        see(seen, "best", x.best());
        for (int k = 0; k < 5; k++) {
            see(seen, "row", x.row(k));
        }
    }

    private static void tape(ClubReads x, StringBuilder seen) {
        see(seen, "signs", x.count(4));
        see(seen, "club", x.club());
        see(seen, "come", x.told(1));
        for (int m = 0; m < 6; m++) {
            for (int b = 0; b < 6; b++) {
                see(seen, "like", x.like(m, b));
            }
        }
    }

    private Look() {
    }
}
