/** What the tests share: counting wrong answers, feeding texts. */
final class Trial {
    private final String name;
    private int asked = 0;
    private int wrong = 0;

    Trial(String name) {
        this.name = name;
    }

    void due(String what, long got, long want) {
        asked++;
        if (got != want) {
            wrong++;
            if (wrong <= 40) {
                System.out.println(name + ": " + what + " answered " + got + ", due is " + want);
            }
        }
    }

    void end() {
        System.out.println(name + ": " + asked + " answers looked at, " + wrong + " wrong");
        if (wrong != 0) {
            System.exit(1);
        }
    }

    /** Puts bytes behind the tape: twenty at a time, the last time cut to what is told. */
    static int feed(NightColander x, int... bytes) {
        int had = x.count(6);
        for (int at = 0; at < bytes.length; at += 20) {
            int[] numbers = new int[5];
            for (int i = 0; i < 20; i++) {
                int one = at + i < bytes.length ? bytes[at + i] & 255 : 0;
                numbers[i / 4] = numbers[i / 4] << 8 | one;
            }
            x.feed(numbers[0], numbers[1], numbers[2], numbers[3], numbers[4]);
        }
        return x.end(had + bytes.length);
    }

    static int feed(NightColander x, String text) {
        return feed(x, text.chars().toArray());
    }

    static int law(NightColander x, String text) {
        feed(x, text);
        return x.law();
    }

    static int orders(NightColander x, String text) {
        feed(x, text);
        return x.orders();
    }

    /** A night with that law in force. */
    static NightColander under(String text) {
        NightColander x = new NightColander();
        x.force(law(x, text));
        return x;
    }
}
