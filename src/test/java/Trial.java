import java.lang.reflect.InvocationTargetException;
import java.lang.reflect.Method;
import java.util.Arrays;
import java.util.Comparator;

/** What the tests share: counting wrong answers, feeding texts, running methods by their names. */
final class Trial {
    /** Numbers far outside; those that are powers of two wrap round to 0 when they are taken by 8 or 64. */
    static final int[] FAR = {
        Integer.MIN_VALUE, Integer.MIN_VALUE + 1, -1000000, -1 << 29, -9, -2,
        10000, 100000, 1 << 26, 1 << 29, 1 << 30, Integer.MAX_VALUE - 1, Integer.MAX_VALUE};

    private final String name;
    private String about = "";
    private int asked = 0;
    private int wrong = 0;
    private int told = 0;

    Trial(String name) {
        this.name = name;
    }

    void due(String what, long got, long want) {
        asked++;
        if (got != want) {
            tell(what + " answered " + got + ", due is " + want);
        }
    }

    void same(String what, String got, String want) {
        asked++;
        if (!got.equals(want)) {
            tell(what + " left " + got + ", due is " + want);
        }
    }

    private void tell(String fault) {
        wrong++;
        told++;
        // Of each method a few, so that the later promises can be seen, too.
        if (told <= 10) {
            System.out.println(name + ": " + about + fault);
        }
    }

    void end() {
        System.out.println(name + ": " + asked + " answers looked at, " + wrong + " wrong");
        if (wrong != 0) {
            System.exit(1);
        }
    }

    /** Runs each method that is named after a promise; each promise from .. to must have one at least. */
    void runNamed(Class<?> tests, int from, int to) throws ReflectiveOperationException {
        Method[] all = tests.getDeclaredMethods();
        Arrays.sort(all, Comparator.comparing(Method::getName));
        int[] often = new int[100];
        for (Method m : all) {
            if (m.getName().matches("promise[0-9]{2}[A-Z].*")) {
                often[Integer.parseInt(m.getName().substring(7, 9))]++;
                runOne(m);
            }
        }
        about = "";
        told = 0;
        for (int promise = from; promise <= to; promise++) {
            due("promise " + promise + " has a test", often[promise] > 0 ? 1 : 0, 1);
        }
    }

    private void runOne(Method m) throws ReflectiveOperationException {
        about = m.getName() + ": ";
        told = 0;
        int ahead = asked;
        try {
            m.invoke(null);
        } catch (InvocationTargetException e) {
            tell("threw " + e.getCause());
        }
        due("looks at something", asked > ahead ? 1 : 0, 1);
    }

    /** All that can be seen without changing it, but for refusals; some hundred and twenty calls. */
    static String all(NightColander x) {
        StringBuilder s = new StringBuilder();
        for (int r = 0; r < 4; r++) {
            s.append(" ring ").append(x.hole(r, 0, 2)).append(':');
            for (int h = 0; h < 8; h++) {
                s.append(x.hole(r, h, 0)).append(x.hole(r, h, 1) == 1 ? "x" : "");
            }
        }
        for (int b = 0; b < 3; b++) {
            s.append(" bucket ").append(x.of(b, 0)).append('/').append(x.of(b, 1)).append('@').append(x.of(b, 2));
        }
        s.append(" counts");
        for (int what : new int[] {0, 1, 2, 3, 4, 5, 6, 12, 13, 14, 15, 16}) {
            s.append(' ').append(x.count(what));
        }
        s.append(" peas ").append(x.peas()).append(" fault ").append(x.fault()).append(" stopped ").append(x.stopped());
        s.append(" years ").append(x.drawn(0, 0)).append(' ').append(x.drawn(0, 2));
        return s.toString();
    }

    /** Puts bytes behind the tape: twenty at a time, the last time cut to what is told. */
    static int feed(NightColander x, int... bytes) {
        int had = x.count(6);
        for (int at = 0; at < bytes.length; at += 20) {
            int[] numbers = new int[5];
            for (int i = 0; i < 20; i++) {
                int one = at + i < bytes.length ? bytes[at + i] & 255 : 0;
                numbers[i / 4] = numbers[i / 4] << 8 | one;
            }
            x.feed(numbers[0], numbers[1], numbers[2], numbers[3], numbers[4]);
        }
        return x.end(had + bytes.length);
    }

    static int feed(NightColander x, String text) {
        return feed(x, text.chars().toArray());
    }

    static int law(NightColander x, String text) {
        feed(x, text);
        return x.law();
    }

    static int orders(NightColander x, String text) {
        feed(x, text);
        return x.orders();
    }

    /** A night with that law in force. */
    static NightColander under(String text) {
        NightColander x = new NightColander();
        x.force(law(x, text));
        return x;
    }

    /** A night with that law in force, and buckets of a size at fields 0, 1 .. */
    static NightColander withBuckets(String text, int... sizes) {
        NightColander x = text.isEmpty() ? new NightColander() : under(text);
        for (int b = 0; b < sizes.length; b++) {
            x.bucket(sizes[b], b);
        }
        return x;
    }
}
