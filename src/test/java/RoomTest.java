import java.lang.management.ManagementFactory;
import java.lang.reflect.InvocationTargetException;
import java.lang.reflect.Method;
import java.lang.reflect.Modifier;

/** What calls make, in bytes, and that no call throws, whatever numbers it is given. */
public final class RoomTest {
    private static final Check CHECK = new Check("RoomTest");
    private static final int[] EDGES = {Integer.MIN_VALUE, -10, -2, -1, 0, 1, 2, 3, 5, 6, 7, 10, 15, 16, 99, 127, 128,
        Integer.MAX_VALUE};

    public static void main(String[] args) throws IllegalAccessException {
        room();
        for (int members = 0; members <= 6; members += 2) {
            for (int books = 0; books <= (members == 0 ? 0 : 6); books += 3) {
                edges(members, books);
            }
        }
        CHECK.end();
    }

    private static ClubReads filled(int members, int books) {
        ClubReads x = Check.with("like 9 b=2&m<3|o>1;loath 40 (m=1|k=6)&!p>4;read 2 s<2;come 4");
        for (int m = 0; m < members; m++) {
            x.member((m + 1) % 7, m);
        }
        for (int b = 0; b < books; b++) {
            x.book(b * 17, b, b % 4, b % members);
        }
        return x;
    }

    private static long made() {
        return ((com.sun.management.ThreadMXBean) ManagementFactory.getThreadMXBean())
            .getThreadAllocatedBytes(Thread.currentThread().getId());
    }

    private static void room() {
        ClubReads x = filled(6, 5);
        x.image();
        askAll(x);
        long before = made();
        for (int i = 0; i < 50; i++) {
            askAll(x);
        }
        long asked = made() - before;
        CHECK.holds("what is asked makes nothing: " + asked, asked < 4096);
        before = made();
        new ClubReads();
        long fresh = made() - before;
        CHECK.holds("a new object takes no more than 10000 bytes: " + fresh, fresh <= 10000);
    }

    private static void askAll(ClubReads x) {
        for (int way = 0; way < 6; way++) {
            x.alone(way);
            x.gain(way, way);
            x.chosen(way, 1);
            x.run(6, way, 2);
            x.enough(way, 2, 1);
            x.order(way, 1, 0);
            x.act(way, 2, 7);
        }
        x.best();
        x.row(1);
        x.looked();
        x.feed('l');
        x.club();
        x.undo();
        x.by(3);
        x.undo();
        x.image();
    }

    private static void edges(int members, int books) throws IllegalAccessException {
        for (Method method : ClubReads.class.getDeclaredMethods()) {
            if (Modifier.isPublic(method.getModifiers())) {
                ClubReads x = filled(members, books);
                x.hand(3);
                x.image();
                call(x, method, new Object[method.getParameterCount()], 0);
                CHECK.holds(method + " came to its end", true);
            }
        }
    }

    private static void call(ClubReads x, Method method, Object[] values, int at) throws IllegalAccessException {
        if (at < values.length) {
            for (int edge : EDGES) {
                values[at] = method.getParameterTypes()[at] == boolean.class ? (Object) (edge > 0) : (Object) edge;
                call(x, method, values, at + 1);
            }
            return;
        }
        try {
            method.invoke(x, values);
        } catch (InvocationTargetException e) {
            CHECK.holds(method + " with " + java.util.Arrays.toString(values) + ": " + e.getCause(), false);
        }
    }

    private RoomTest() {
    }
}
