import java.lang.reflect.InvocationTargetException;
import java.lang.reflect.Method;
import java.util.HashMap;
import java.util.Map;
import java.util.Set;
import java.util.TreeSet;

/** Checks, most of them of edges, each under the promise and the words of the document that it is of. */
final class Edge {
    static final int NONE = -1, BAD = -2, STATE = -3, FULL = -4, FEWER = -5, OTHER = -6, MANY = -9;
    static final int FAR_NONE = -10001, FAR_BAD = -10002;
    static final int LEAST = Integer.MIN_VALUE, MOST = Integer.MAX_VALUE;
    static final long NO = Long.MIN_VALUE;

    private static final Map<String, Method> FACE = new HashMap<>();

    static {
        for (Method method : ClubReads.class.getMethods()) {
            if (method.getDeclaringClass() == ClubReads.class) {
                FACE.put(method.getName(), method);
            }
        }
    }

    private final Check check;
    private final Set<Integer> asked = new TreeSet<>();
    private final Map<String, String> looks = new HashMap<>();
    private int promise = 0;
    private String heading = "";

    Edge(String name) {
        check = new Check(name);
    }

    /** What comes behind this is of that promise's words. */
    void of(int promise, String words) {
        this.promise = promise;
        heading = "Promise " + promise + " (" + words + "): ";
    }

    void due(String call, long got, long want) {
        asked.add(promise);
        check.due(heading + call, got, want);
    }

    /** The call, whose numbers stand for false (0) and true where it takes a boolean, answers so. */
    void due(ClubReads x, long want, String name, int... values) {
        due(text(name, values), ask(x, name, values), want);
    }

    /** The call answers so in that scene, and all is then as it is without the call. */
    void leaves(Scene scene, long want, String name, int... values) {
        for (int part = 0; part < Look.PARTS; part++) {
            ClubReads x = scene.make();
            due(x, want, name, values);
            untouched(scene, part, x, text(name, values));
        }
    }

    /** Whether the object, made as that scene, still is so, as far as a part of a look tells. */
    void untouched(Scene scene, int part, ClubReads x, String behind) {
        String before = looks.computeIfAbsent(scene + " " + part, key -> Look.at(scene.make(), part));
        check.holds(heading + scene + " is as before, behind " + behind, before.equals(Look.at(x, part)));
    }

    /** Something has been asked under each promise from one to another. */
    void end(int from, int to) {
        for (int number = from; number <= to; number++) {
            check.holds("there is a test of promise " + number, asked.contains(number));
        }
        check.end();
    }

    /** The numbers next to a range, and the farthest ones. */
    static int[] outside(int least, int most) {
        return new int[] {LEAST, least - 1, most + 1, MOST};
    }

    private static String text(String name, int... values) {
        StringBuilder text = new StringBuilder(name).append('(');
        for (int i = 0; i < values.length; i++) {
            text.append(i == 0 ? "" : ", ").append(values[i]);
        }
        return text.append(')').toString();
    }

    static long ask(ClubReads x, String name, int... values) {
        Method method = FACE.get(name);
        Object[] all = new Object[values.length];
        for (int i = 0; i < values.length; i++) {
            all[i] = method.getParameterTypes()[i] == boolean.class ? (Object) (values[i] != 0) : (Object) values[i];
        }
        try {
            return ((Number) method.invoke(x, all)).longValue();
        } catch (IllegalAccessException | InvocationTargetException e) {
            throw new IllegalStateException(text(name, values), e);
        }
    }
}
