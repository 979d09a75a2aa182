import java.util.Random;

/** Random runs of calls on a new object, each answer held against the Oracle's. */
public final class OracleTest {
    private static final String[] LAW_WORDS = {"ring", "hole", "bore", "field", "bucket", "level", "hour", "wet", "mood"};
    private static final String[] ORDER_WORDS = {"hour", "done", "latest", "caught", "turn ", "level ", "flow "};
    private static final String[] STRAY = {"if", "or", "and", "not", "(", ")", "[", "]", ";", "<", "=", "+", "-", "*", "/", "%", "times", "of", "at", "1001", "7", "ring", "flow", "level", "pass", "runs", "bars", "A", "\t", "  ", "\u00ff"};
    private static final Trial t = new Trial("OracleTest");

    private final Random random;
    private final NightColander x = new NightColander();
    private final Oracle y = new Oracle();
    private final int run;

    private OracleTest(int run) {
        this.run = run;
        this.random = new Random(run * 7919L + 17);
    }

    public static void main(String[] args) {
        int runs = args.length > 0 ? Integer.parseInt(args[0]) : 400;
        for (int run = 0; run < runs; run++) {
            OracleTest one = new OracleTest(run);
            for (int calls = 0; calls < 160; calls++) {
                one.step();
            }
            one.lookAtAll();
        }
        t.end();
    }

    private int below(int n) {
        return random.nextInt(n);
    }

    // Mostly within 0 .. most, at times just outside or far off.
    private int about(int most) {
        switch (below(30)) {
            case 0:
                return -1;
            case 1:
                return most + 1;
            case 2:
                return random.nextInt();
            default:
                return below(most + 1);
        }
    }

    private void due(String call, long got, long want) {
        t.due("run " + run + ": " + call, got, want);
    }

    private String any(String... list) {
        return list[below(list.length)];
    }

    private String blank() {
        return any(" ", " ", "  ");
    }

    private String part(boolean orders, int depth) {
        int kind = below(10);
        if (kind == 0 && depth < 9) {
            return "[" + sum(orders, depth + 1) + "]";
        }
        if (kind < 5) {
            return below(12) == 0 ? any("1000", "999", "0", "0012") : "" + below(12);
        }
        if (!orders) {
            return any(LAW_WORDS);
        }
        String word = any(ORDER_WORDS);
        switch (word) {
            case "turn ":
                return word + below(4);
            case "level ":
                return word + below(3);
            case "flow ":
                return word + below(8);
            default:
                return word;
        }
    }

    private String sum(boolean orders, int depth) {
        StringBuilder s = new StringBuilder(part(orders, depth));
        while (below(3) == 0) {
            s.append(any("", " ")).append(any("+", "-", "*", "*", "/", "%")).append(any("", " ")).append(part(orders, depth));
        }
        return s.toString();
    }

    private String plain(boolean orders, int depth) {
        int kind = below(8);
        if (kind == 0) {
            return "not " + plain(orders, depth);
        }
        if (kind == 1 && depth < 9) {
            return "(" + test(orders, depth + 1) + ")";
        }
        return sum(orders, depth) + any("<", ">", "=", " < ") + sum(orders, depth);
    }

    private String test(boolean orders, int depth) {
        StringBuilder s = new StringBuilder(plain(orders, depth));
        while (below(3) == 0) {
            s.append(blank()).append(any("or", "and")).append(blank()).append(plain(orders, depth));
        }
        return s.toString();
    }

    private String small(int n, boolean orders) {
        switch (below(12)) {
            case 0:
                return sum(orders, 0);
            case 1:
                return any("done%" + n, "hour%" + n, "caught%" + n);
            default:
                return "" + below(n);
        }
    }

    private String clause(boolean orders) {
        String s;
        if (orders) {
            switch (below(5)) {
                case 0:
                    s = "block " + small(8, true) + " of " + small(4, true);
                    break;
                case 1:
                    s = "ream " + small(8, true) + " of " + small(4, true);
                    break;
                case 2:
                    s = "set " + small(3, true) + " at " + small(8, true);
                    break;
                default:
                    s = "pass";
                    break;
            }
            if (below(3) == 0) {
                s += " times " + (1 + below(below(20) == 0 ? 21 : 6));
            }
        } else {
            String verb = any("runs", "runs", "leaks", "pays", "bars");
            s = verb.equals("bars") ? verb : verb + " " + sum(false, 0);
        }
        return below(verbIfs(s)) == 0 ? s : s + " if " + test(orders, 0);
    }

    // A law that bars everywhere, or a set that always is to be, would leave little to look at.
    private int verbIfs(String clause) {
        return clause.startsWith("bars") ? 20 : clause.startsWith("set") ? 4 : 2;
    }

    private String text(boolean orders) {
        StringBuilder s = new StringBuilder(clause(orders));
        int most = below(15) == 0 ? 14 : 4;
        for (int i = below(most); i > 0; i--) {
            s.append(any(";", " ; ")).append(below(10) == 0 ? "pass" : clause(orders));
        }
        if (!orders) {
            int at;
            while ((at = s.indexOf("pass")) >= 0) {
                s.replace(at, at + 4, "bars if field=2");
            }
        }
        for (int i = below(8) == 0 ? 1 + below(2) : 0; i > 0; i--) {
            int at = below(s.length() + 1);
            int to = Math.min(s.length(), at + below(3));
            s.replace(at, to, any(STRAY));
        }
        return s.length() > 400 ? s.substring(0, 400) : s.toString();
    }

    private void feed(String bytes) {
        for (int at = 0; at < bytes.length(); at += 20) {
            int[] n = new int[5];
            for (int i = 0; i < 20; i++) {
                n[i / 4] = n[i / 4] << 8 | (at + i < bytes.length() ? bytes.charAt(at + i) : ' ');
            }
            due("feed", x.feed(n[0], n[1], n[2], n[3], n[4]), y.feed(n[0], n[1], n[2], n[3], n[4]));
        }
        if (below(20) != 0) {
            due("end", x.end(bytes.length()), y.end(bytes.length()));
        }
    }

    private String holes() {
        StringBuilder s = new StringBuilder();
        for (int i = below(12); i >= 0; i--) {
            s.append((char) below(5)).append((char) below(9)).append((char) below(11));
        }
        s.setLength(s.length() - below(3));
        return s.toString();
    }

    private void lawOrOrders(boolean orders) {
        String text = text(orders);
        feed(text);
        if (orders) {
            due("orders '" + text + "'", x.orders(), y.orders());
            due("stopped", x.stopped(), y.stopped());
        } else {
            int got = x.law();
            due("law '" + text + "'", got, y.law());
            if (got >= 0 && below(3) > 0) {
                due("force", x.force(got), y.force(got));
            }
        }
        due("fault '" + text + "'", x.fault(), y.fault());
    }

    private void step() {
        int a = about(7);
        int b = about(3);
        switch (below(40)) {
            case 0:
                due("turn", x.turn(b, a), y.turn(b, a));
                break;
            case 1:
            case 2: {
                int size = about(99);
                due("bucket", x.bucket(size, a), y.bucket(size, a));
                break;
            }
            case 3: {
                int threads = below(4) == 0 ? -1 : seeable(a);
                due("wanted", x.wanted(a, threads), y.wanted(a, threads));
                break;
            }
            case 4: {
                int what = about(3);
                int value = what == 0 ? about(999) : about(9);
                due("terms", x.terms(what, value), y.terms(what, value));
                break;
            }
            case 5: {
                feed(holes());
                due("row", x.row(), y.row());
                due("peas", x.peas(), y.peas());
                break;
            }
            case 6:
            case 7:
                lawOrOrders(false);
                break;
            case 8:
            case 9:
            case 10:
            case 11:
                lawOrOrders(true);
                break;
            case 12: {
                int law = about(5) - below(2);
                due("force " + law, x.force(law), y.force(law));
                break;
            }
            case 13:
            case 14:
                due("block", x.block(a, b), y.block(a, b));
                break;
            case 15:
                due("ream", x.ream(a, b), y.ream(a, b));
                break;
            case 16:
            case 17: {
                int bucket = about(2);
                due("set " + bucket + " " + a, x.set(bucket, a), y.set(bucket, a));
                break;
            }
            case 18:
            case 19:
            case 20:
                due("pass", x.pass(), y.pass());
                break;
            case 21:
            case 22:
                due("undo", x.undo(), y.undo());
                break;
            case 23: {
                int v = seeable(a) + below(20);
                due("when " + a + " " + v, x.when(a, v), y.when(a, v));
                break;
            }
            case 24: {
                int n = about(9);
                int what = about(3);
                due("placed " + n + " " + what, x.placed(n, what), y.placed(n, what));
                break;
            }
            case 25:
            case 26: {
                int threads = seeable(a);
                due("seen", x.seen(a, threads), y.seen(a, threads));
                break;
            }
            case 27:
                if (below(3) == 0) {
                    due("forget", x.forget(), y.forget());
                }
                break;
            case 28: {
                int all = x.settings(-1);
                due("settings", all, y.settings(-1));
                int i = about(Math.max(0, all - 1));
                due("settings " + i, x.settings(i), y.settings(i));
                break;
            }
            case 29: {
                int what = about(1);
                due("look " + what, x.look(what), y.look(what));
                break;
            }
            case 30:
                due("turned " + b, x.turned(b), y.turned(b));
                due("turned", x.turned(-1), y.turned(-1));
                break;
            case 31: {
                int v = seeable(a) + below(15);
                int what = about(1);
                due("cleared " + a + " " + v, x.cleared(a, v, what), y.cleared(a, v, what));
                break;
            }
            case 32:
                due("drought " + a, x.drought(a), y.drought(a));
                break;
            case 33:
                due("luck " + a, x.luck(a), y.luck(a));
                due("flow " + a, x.flow(a), y.flow(a));
                break;
            case 34: {
                int k = about(20);
                int n = about(99);
                due("few", x.few(k, n), y.few(k, n));
                due("together", x.together(b, a), y.together(b, a));
                break;
            }
            case 35: {
                int law = about(5) - 1;
                due("worth " + law, x.worth(law), y.worth(law));
                due("settled", x.settled(b), y.settled(b));
                break;
            }
            case 36: {
                int seed = about(1000000);
                int n = about(60);
                due("years " + seed + " " + n, x.years(seed, n), y.years(seed, n));
                int what = about(2);
                due("drawn " + b + " " + what, x.drawn(b, what), y.drawn(b, what));
                break;
            }
            case 37: {
                int k = about(1);
                due("image", x.image(k), y.image(k));
                break;
            }
            case 38: {
                int k = about(1);
                due("back", x.back(k), y.back(k));
                break;
            }
            default: {
                int what = about(3);
                due("hole", x.hole(b, a, what), y.hole(b, a, what));
                int of = about(12);
                due("of " + b + " " + of, x.of(b, of), y.of(b, of));
                break;
            }
        }
        due("status", x.status(), y.status());
        int what = about(16);
        due("count " + what, x.count(what), y.count(what));
    }

    // What a field has by some setting near, so that what is seen or wanted can be at times.
    private int seeable(int field) {
        return below(12) == 0 ? about(400) : Math.max(0, x.flow(below(3) == 0 ? below(8) : field));
    }

    private void lookAtAll() {
        for (int what = 0; what <= 16; what++) {
            due("count " + what, x.count(what), y.count(what));
        }
        for (int r = 0; r < 4; r++) {
            for (int h = 0; h < 8; h++) {
                for (int what = 0; what < 4; what++) {
                    due("hole " + r + " " + h + " " + what, x.hole(r, h, what), y.hole(r, h, what));
                }
            }
        }
        for (int b = 0; b < 3; b++) {
            for (int what = 0; what <= 12; what++) {
                due("of " + b + " " + what, x.of(b, what), y.of(b, what));
            }
            for (int what = 0; what < 3; what++) {
                due("drawn " + b + " " + what, x.drawn(b, what), y.drawn(b, what));
            }
        }
        for (int f = 0; f < 8; f++) {
            due("wanted " + f, x.wanted(f, -1), y.wanted(f, -1));
            due("drought " + f, x.drought(f), y.drought(f));
        }
        while (x.count(5) > 0 && y.count(5) > 0) {
            due("undo", x.undo(), y.undo());
        }
        for (int b = 0; b < 3; b++) {
            due("level", x.of(b, 1), y.of(b, 1));
            due("field", x.of(b, 2), y.of(b, 2));
        }
    }
}
