import java.util.ArrayDeque;
import java.util.ArrayList;
import java.util.Arrays;
import java.util.HashMap;
import java.util.List;
import java.util.Map;
import java.util.TreeMap;

/**
 * A second reading of the document, as plain and slow as can be: trees instead of steps, whole copies
 * instead of inverses, trying everything instead of tables. Its methods bear the document's names.
 */
final class Oracle {
    private static final class Broken extends RuntimeException {
        private static final long serialVersionUID = 1L;

        Broken() {
            super(null, null, false, false);
        }
    }

    private static final class Fault extends RuntimeException {
        private static final long serialVersionUID = 1L;
        final int place;

        Fault(int place) {
            super(null, null, false, false);
            this.place = place;
        }
    }

    private interface Words {
        long value(String word);
    }

    private interface Sum {
        long of(Words words);
    }

    private interface Test {
        boolean of(Words words);
    }

    private static final class Clause {
        String verb;
        Sum first;
        Sum second;
        int times = 1;
        Test test;

        boolean asked(Words words) {
            try {
                return test == null || test.of(words);
            } catch (Broken b) {
                return false;
            }
        }
    }

    private static final class State {
        int[][] bore = new int[4][8];
        boolean[][] blocked = new boolean[4][8];
        int[] turn = new int[4];
        List<int[]> buckets = new ArrayList<>();
        List<int[]> seen = new ArrayList<>();
        Map<Integer, Integer> wanted = new HashMap<>();
        int[] terms = {0, 3, 0, 1};
        List<List<Clause>> laws = new ArrayList<>();
        int force = -1;

        State() {
            for (int[] ring : bore) {
                Arrays.fill(ring, 1);
            }
        }

        State copy() {
            State s = new State();
            for (int r = 0; r < 4; r++) {
                s.bore[r] = bore[r].clone();
                s.blocked[r] = blocked[r].clone();
            }
            s.turn = turn.clone();
            for (int[] b : buckets) {
                s.buckets.add(b.clone());
            }
            s.seen.addAll(seen);
            s.wanted.putAll(wanted);
            s.terms = terms.clone();
            s.laws.addAll(laws);
            s.force = force;
            return s;
        }

        List<Clause> law() {
            return force < 0 ? List.of() : laws.get(force);
        }

        int last(String verb, Words words, int without, int most) {
            int answer = without;
            for (Clause c : law()) {
                if (c.verb.equals(verb) && c.asked(words)) {
                    try {
                        long told = c.first.of(words);
                        answer = (int) (told < 0 ? 0 : told > most ? most : told);
                    } catch (Broken b) {
                        // It does not hold.
                    }
                }
            }
            return answer;
        }

        Words words(int ring, int hole, int bore, int field, int bucket, int level) {
            Map<String, Integer> m = new HashMap<>();
            m.put("ring", ring);
            m.put("hole", hole);
            m.put("bore", bore);
            m.put("field", field);
            m.put("bucket", bucket);
            m.put("level", level);
            m.put("hour", terms[0]);
            m.put("wet", terms[1]);
            m.put("mood", terms[2]);
            return m::get;
        }

        int below(int ring, int hole) {
            return (hole + turn[ring]) % 8;
        }

        int runs(int ring, int hole) {
            if (blocked[ring][hole]) {
                return 0;
            }
            Words w = words(ring, hole, bore[ring][hole], below(ring, hole), -1, -1);
            return last("runs", w, bore[ring][hole] * terms[1], 99);
        }

        int leaks(int b) {
            return last("leaks", words(-1, -1, -1, buckets.get(b)[2], b, buckets.get(b)[1]), 0, 9);
        }

        int pays(int b) {
            return last("pays", words(-1, -1, -1, buckets.get(b)[2], b, buckets.get(b)[1]), 1, 99);
        }

        boolean barred(int b, int field) {
            Words w = words(-1, -1, -1, field, b, buckets.get(b)[1]);
            return law().stream().anyMatch(c -> c.verb.equals("bars") && c.asked(w));
        }

        int flow(int field) {
            int sum = 0;
            for (int r = 0; r < 4; r++) {
                for (int h = 0; h < 8; h++) {
                    if (below(r, h) == field) {
                        sum += runs(r, h);
                    }
                }
            }
            return sum;
        }

        int hour() {
            int[] fall = new int[8];
            for (int f = 0; f < 8; f++) {
                fall[f] = flow(f);
            }
            int caught = 0;
            for (int[] b : buckets) {
                int more = Math.min(fall[b[2]], b[0] - b[1]);
                caught += more;
                b[1] += more;
            }
            for (int b = 0; b < buckets.size(); b++) {
                int leak = leaks(b);
                buckets.get(b)[1] = Math.max(0, buckets.get(b)[1] - leak);
            }
            for (int r = 0; r < 4; r++) {
                turn[r] = (turn[r] + r + 1) % 8;
            }
            terms[0]++;
            return caught;
        }

        int at(int field) {
            for (int b = 0; b < buckets.size(); b++) {
                if (buckets.get(b)[2] == field) {
                    return b;
                }
            }
            return -1;
        }

        int levels() {
            return buckets.stream().mapToInt(b -> b[1]).sum();
        }
    }

    private static final class Reader {
        final String text;
        final boolean orders;
        final List<String> tokens = new ArrayList<>();
        final List<Integer> places = new ArrayList<>();
        int at = 0;
        int parts = 0;
        int open = 0;

        Reader(String text, boolean orders) {
            this.text = text;
            this.orders = orders;
            java.util.regex.Matcher m = java.util.regex.Pattern.compile("[a-z]+|[0-9]+|[^ ]", java.util.regex.Pattern.DOTALL).matcher(text);
            while (m.find()) {
                tokens.add(m.group());
                places.add(m.start());
            }
            tokens.add("");
            places.add(text.length());
        }

        String token() {
            return tokens.get(at);
        }

        Fault fault() {
            return new Fault(places.get(at));
        }

        boolean takes(String... any) {
            if (Arrays.asList(any).contains(token()) && !token().isEmpty()) {
                at++;
                return true;
            }
            return false;
        }

        void needs(String one) {
            if (!takes(one)) {
                throw fault();
            }
        }

        int number(int least, int most) {
            String one = token();
            if (!one.matches("[0-9]+")) {
                throw fault();
            }
            java.math.BigInteger n = new java.math.BigInteger(one);
            if (n.compareTo(java.math.BigInteger.valueOf(least)) < 0 || n.compareTo(java.math.BigInteger.valueOf(most)) > 0) {
                throw fault();
            }
            at++;
            return n.intValue();
        }

        List<Clause> read() {
            List<Clause> all = new ArrayList<>();
            do {
                if (all.size() == 12) {
                    throw fault();
                }
                all.add(clause());
            } while (takes(";"));
            if (at != tokens.size() - 1) {
                throw fault();
            }
            return all;
        }

        Clause clause() {
            Clause c = new Clause();
            c.verb = token();
            if (orders) {
                if (takes("block", "ream", "set")) {
                    c.first = sum();
                    needs(c.verb.equals("set") ? "at" : "of");
                    c.second = sum();
                } else {
                    needs("pass");
                }
                if (takes("times")) {
                    c.times = number(1, 20);
                }
            } else if (takes("runs", "leaks", "pays")) {
                c.first = sum();
            } else {
                needs("bars");
            }
            if (takes("if")) {
                c.test = test();
            }
            return c;
        }

        Test test() {
            Test left = both();
            while (takes("or")) {
                Test a = left;
                Test b = both();
                left = w -> a.of(w) || b.of(w);
            }
            return left;
        }

        Test both() {
            Test left = plain();
            while (takes("and")) {
                Test a = left;
                Test b = plain();
                left = w -> a.of(w) && b.of(w);
            }
            return left;
        }

        Test plain() {
            if (takes("not")) {
                Test t = plain();
                return w -> !t.of(w);
            }
            if (token().equals("(")) {
                bracket();
                Test t = test();
                needs(")");
                open--;
                return t;
            }
            Sum a = sum();
            String sign = token();
            if (!takes("<", ">", "=")) {
                throw fault();
            }
            Sum b = sum();
            return w -> {
                long x = a.of(w);
                long y = b.of(w);
                return sign.equals("<") ? x < y : sign.equals(">") ? x > y : x == y;
            };
        }

        void bracket() {
            if (open == 8) {
                throw fault();
            }
            open++;
            at++;
        }

        static long checked(long value) {
            if (value > 1000000000L || value < -1000000000L) {
                throw new Broken();
            }
            return value;
        }

        Sum sum() {
            Sum left = term();
            for (String sign = token(); takes("+", "-"); sign = token()) {
                Sum a = left;
                Sum b = term();
                left = sign.equals("+") ? w -> checked(a.of(w) + b.of(w)) : w -> checked(a.of(w) - b.of(w));
            }
            return left;
        }

        Sum term() {
            Sum left = part();
            for (String sign = token(); takes("*", "/", "%"); sign = token()) {
                Sum a = left;
                Sum b = part();
                String s = sign;
                left = w -> {
                    long x = a.of(w);
                    long y = b.of(w);
                    if (s.equals("*")) {
                        return checked(x * y);
                    }
                    if (y == 0) {
                        throw new Broken();
                    }
                    return s.equals("/") ? x / y : x - x / y * y;
                };
            }
            return left;
        }

        Sum part() {
            if (token().equals("[")) {
                bracket();
                Sum s = sum();
                needs("]");
                open--;
                return s;
            }
            if (parts == 50) {
                throw fault();
            }
            if (token().matches("[0-9]+")) {
                int n = number(0, 1000);
                parts++;
                return w -> n;
            }
            String word = token();
            parts++;
            if (!orders) {
                if (!takes("ring", "hole", "bore", "field", "bucket", "level", "hour", "wet", "mood")) {
                    throw fault();
                }
                return w -> w.value(word);
            }
            if (takes("hour", "done", "latest", "caught")) {
                return w -> w.value(word);
            }
            if (!takes("turn", "level", "flow")) {
                throw fault();
            }
            int n = number(0, word.equals("turn") ? 3 : word.equals("level") ? 2 : 7);
            return w -> w.value(word + n);
        }
    }

    private State now = new State();
    private final State[] images = new State[2];
    private ArrayDeque<Object[]> past = new ArrayDeque<>();
    private String tape = "";
    private int status = 0;
    private int peas = 0;
    private int fault = -1;
    private int stopped = -1;
    private State years = null;
    private final Map<Integer, Integer> refused = new TreeMap<>();

    private static boolean in(int x, int from, int to) {
        return x >= from && x <= to;
    }

    private int no(int code) {
        status = code;
        refused.merge(code, 1, Integer::sum);
        return code;
    }

    private int yes(int answer) {
        status = 0;
        return answer;
    }

    int hole(int r, int h, int what) {
        if (!in(r, 0, 3) || !in(h, 0, 7) || !in(what, 0, 3)) {
            return -1;
        }
        return new int[] {now.bore[r][h], now.blocked[r][h] ? 1 : 0, now.below(r, h), now.runs(r, h)}[what];
    }

    int turn(int r, int t) {
        if (!in(r, 0, 3) || !in(t, 0, 7)) {
            return no(-1);
        }
        int was = now.turn[r];
        now.turn[r] = t;
        past.clear();
        return yes(was);
    }

    int bucket(int size, int field) {
        if (!in(size, 1, 99) || !in(field, 0, 7)) {
            return no(-1);
        }
        if (now.at(field) >= 0) {
            return no(-3);
        }
        if (now.buckets.size() == 3) {
            return no(-5);
        }
        now.buckets.add(new int[] {size, 0, field});
        past.clear();
        return yes(now.buckets.size() - 1);
    }

    int of(int b, int what) {
        if (!in(b, 0, now.buckets.size() - 1) || !in(what, 0, 12)) {
            return -1;
        }
        if (what < 3) {
            return now.buckets.get(b)[what];
        }
        return what == 3 ? now.leaks(b) : what == 4 ? now.pays(b) : now.barred(b, what - 5) ? 1 : 0;
    }

    int wanted(int field, int threads) {
        if (!in(field, 0, 7) || !in(threads, -1, 400)) {
            return no(-1);
        }
        int was = now.wanted.getOrDefault(field, -1);
        now.wanted.put(field, threads);
        return yes(was);
    }

    int flow(int field) {
        return in(field, 0, 7) ? now.flow(field) : -1;
    }

    int terms(int what, int value) {
        if (!in(what, 0, 3) || !in(value, 0, new int[] {999, 9, 9, 10}[what])) {
            return no(-1);
        }
        int was = now.terms[what];
        now.terms[what] = value;
        past.clear();
        return yes(was);
    }

    int feed(int a, int b, int c, int d, int e) {
        if (tape.length() + 20 > 400) {
            return -1;
        }
        byte[] bytes = java.nio.ByteBuffer.allocate(20).putInt(a).putInt(b).putInt(c).putInt(d).putInt(e).array();
        tape += new String(bytes, java.nio.charset.StandardCharsets.ISO_8859_1);
        return tape.length();
    }

    int end(int n) {
        if (!in(n, 0, tape.length())) {
            return -1;
        }
        tape = tape.substring(0, n);
        return n;
    }

    int row() {
        if (tape.isEmpty()) {
            return no(-6);
        }
        int told = 0;
        peas = 0;
        for (int i = 0; i < tape.length(); i += 3) {
            boolean whole = i + 2 < tape.length();
            if (whole && tape.charAt(i) < 4 && tape.charAt(i + 1) < 8 && tape.charAt(i + 2) < 10) {
                now.bore[tape.charAt(i)][tape.charAt(i + 1)] = tape.charAt(i + 2);
                now.blocked[tape.charAt(i)][tape.charAt(i + 1)] = false;
                told++;
            } else {
                peas++;
            }
        }
        tape = "";
        past.clear();
        return yes(told);
    }

    int peas() {
        return peas;
    }

    private List<Clause> read(boolean orders) {
        String text = tape;
        tape = "";
        try {
            List<Clause> all = new Reader(text, orders).read();
            fault = -1;
            return all;
        } catch (Fault f) {
            fault = f.place;
            return null;
        }
    }

    int law() {
        if (now.laws.size() == 6) {
            tape = "";
            return no(-5);
        }
        List<Clause> all = read(false);
        if (all == null) {
            return no(-6);
        }
        now.laws.add(all);
        return yes(now.laws.size() - 1);
    }

    int orders() {
        stopped = -1;
        List<Clause> all = read(true);
        if (all == null) {
            return no(-6);
        }
        State ahead = now.copy();
        ArrayDeque<Object[]> pastAhead = new ArrayDeque<>(past);
        int[] done = {0, -1};
        Words words = w -> {
            switch (w) {
                case "hour":
                    return now.terms[0];
                case "done":
                    return done[0];
                case "latest":
                    return done[1];
                case "caught":
                    return now.levels();
                default:
                    int n = w.charAt(w.length() - 1) - '0';
                    if (w.startsWith("turn")) {
                        return now.turn[n];
                    }
                    if (w.startsWith("flow")) {
                        return now.flow(n);
                    }
                    return n < now.buckets.size() ? now.buckets.get(n)[1] : -1;
            }
        };
        for (int c = 0; c < all.size(); c++) {
            Clause clause = all.get(c);
            for (int i = 0; i < clause.times; i++) {
                if (!clause.asked(words)) {
                    continue;
                }
                int answer;
                try {
                    int a = clause.first == null ? 0 : (int) clause.first.of(words);
                    int b = clause.second == null ? 0 : (int) clause.second.of(words);
                    answer = deed(Arrays.asList("block", "ream", "set", "pass").indexOf(clause.verb), a, b);
                } catch (Broken b) {
                    answer = -3;
                }
                if (answer < 0) {
                    now = ahead;
                    past = pastAhead;
                    stopped = c;
                    return no(-3);
                }
                done[0]++;
                if (clause.verb.equals("pass")) {
                    done[1] = answer;
                }
            }
        }
        return yes(done[0]);
    }

    int fault() {
        return fault;
    }

    int stopped() {
        return stopped;
    }

    int force(int law) {
        if (!in(law, -1, now.laws.size() - 1)) {
            return no(-2);
        }
        int was = now.force;
        now.force = law;
        return yes(was);
    }

    // What is undone is kept as the numbers of that deed alone, since laws and the like may change in between.
    private int deed(int kind, int a, int b) {
        Object[] row = {kind, a, b, now.turn.clone(), now.buckets.stream().map(int[]::clone).toArray(int[][]::new)};
        int answer;
        if (kind == 0) {
            if (!in(a, 0, 7) || !in(b, 0, 3)) {
                return -1;
            }
            now.blocked[b][a] = !now.blocked[b][a];
            answer = now.blocked[b][a] ? 1 : 0;
        } else if (kind == 1) {
            if (!in(a, 0, 7) || !in(b, 0, 3)) {
                return -1;
            }
            if (now.bore[b][a] == 9) {
                return -3;
            }
            answer = ++now.bore[b][a];
        } else if (kind == 2) {
            if (!in(b, 0, 7)) {
                return -1;
            }
            if (!in(a, 0, now.buckets.size() - 1)) {
                return -2;
            }
            if (now.at(b) >= 0 || now.barred(a, b)) {
                return -3;
            }
            answer = now.buckets.get(a)[2];
            now.buckets.get(a)[2] = b;
        } else {
            if (now.terms[0] == 999) {
                return -3;
            }
            answer = now.hour();
        }
        past.addLast(row);
        if (past.size() > 16) {
            past.removeFirst();
        }
        return answer;
    }

    private int said(int answer) {
        return answer < 0 ? no(answer) : yes(answer);
    }

    int block(int hole, int ring) {
        return said(deed(0, hole, ring));
    }

    int ream(int hole, int ring) {
        return said(deed(1, hole, ring));
    }

    int set(int bucket, int field) {
        return said(deed(2, bucket, field));
    }

    int pass() {
        return said(deed(3, 0, 0));
    }

    int undo() {
        if (past.isEmpty()) {
            return no(-3);
        }
        Object[] row = past.removeLast();
        int kind = (Integer) row[0];
        int a = (Integer) row[1];
        int b = (Integer) row[2];
        if (kind == 0) {
            now.blocked[b][a] = !now.blocked[b][a];
        } else if (kind == 1) {
            now.bore[b][a]--;
        } else {
            now.buckets.clear();
            for (int[] one : (int[][]) row[4]) {
                now.buckets.add(one.clone());
            }
            now.turn = ((int[]) row[3]).clone();
            now.terms[0] -= kind == 3 ? 1 : 0;
        }
        return yes(kind);
    }

    int when(int field, int v) {
        if (!in(field, 0, 7) || !in(v, 0, 400)) {
            return -1;
        }
        State s = now.copy();
        for (int i = 0; i <= 60; i++, s.hour()) {
            if (s.flow(field) >= v) {
                return i;
            }
        }
        return -1;
    }

    private int[] bestPlaces(int n) {
        int k = now.buckets.size();
        int[] best = null;
        for (int row = 0; row < Math.pow(8, k); row++) {
            State s = now.copy();
            int rest = row;
            for (int b = k - 1; b >= 0; b--, rest /= 8) {
                s.buckets.get(b)[2] = rest % 8;
            }
            boolean can = s.buckets.stream().mapToInt(b -> b[2]).distinct().count() == k;
            for (int b = 0; b < k; b++) {
                can &= !now.barred(b, s.buckets.get(b)[2]);
            }
            if (!can) {
                continue;
            }
            int[] one = new int[4];
            for (int b = 0; b < k; b++) {
                one[1 + b] = s.buckets.get(b)[2];
            }
            for (int i = 0; i < n; i++) {
                one[0] += s.hour();
            }
            if (best == null || one[0] > best[0]) {
                best = one;
            }
        }
        return best;
    }

    int placed(int n, int what) {
        if (!in(n, 1, 9) || !in(what, 0, now.buckets.size())) {
            return -1;
        }
        int[] best = bestPlaces(n);
        return best == null ? -1 : best[what];
    }

    int seen(int field, int threads) {
        if (!in(field, 0, 7) || !in(threads, 0, 400)) {
            return no(-1);
        }
        if (now.seen.size() == 6) {
            return no(-5);
        }
        now.seen.add(new int[] {field, threads});
        return yes(now.seen.size());
    }

    int forget() {
        int was = now.seen.size();
        now.seen.clear();
        return was;
    }

    // Every setting with the threads on all fields, each ring's part worked out by turning it.
    private List<int[]> allSettings() {
        int[][][] part = new int[4][8][8];
        for (int r = 0; r < 4; r++) {
            for (int t = 0; t < 8; t++) {
                State s = now.copy();
                s.turn[r] = t;
                for (int h = 0; h < 8; h++) {
                    part[r][t][s.below(r, h)] += s.runs(r, h);
                }
            }
        }
        List<int[]> all = new ArrayList<>();
        for (int a = 0; a < 8; a++) {
            for (int b = 0; b < 8; b++) {
                for (int c = 0; c < 8; c++) {
                    for (int d = 0; d < 8; d++) {
                        int[] one = new int[12];
                        for (int f = 0; f < 8; f++) {
                            one[f] = part[0][a][f] + part[1][b][f] + part[2][c][f] + part[3][d][f];
                        }
                        one[8] = a;
                        one[9] = b;
                        one[10] = c;
                        one[11] = d;
                        all.add(one);
                    }
                }
            }
        }
        return all;
    }

    private List<int[]> fitting() {
        List<int[]> all = allSettings();
        all.removeIf(one -> now.seen.stream().anyMatch(s -> one[s[0]] != s[1]));
        return all;
    }

    int settings(int i) {
        List<int[]> all = fitting();
        if (i == -1) {
            return all.size();
        }
        if (!in(i, 0, all.size() - 1)) {
            return -1;
        }
        int[] one = all.get(i);
        return Integer.parseInt("" + one[8] + one[9] + one[10] + one[11]);
    }

    int look(int what) {
        List<int[]> all = fitting();
        if (all.isEmpty() || !in(what, 0, 1)) {
            return -1;
        }
        int field = -1;
        int best = Integer.MAX_VALUE;
        for (int f = 0; f < 8; f++) {
            Map<Integer, Integer> alike = new HashMap<>();
            for (int[] one : all) {
                alike.merge(one[f], 1, Integer::sum);
            }
            int most = alike.values().stream().max(Integer::compare).get();
            if (most < best) {
                best = most;
                field = f;
            }
        }
        return what == 0 ? field : best;
    }

    int turned(int ring) {
        if (!in(ring, -1, 3)) {
            return -1;
        }
        int best = Integer.MAX_VALUE;
        int[] choice = null;
        for (int[] one : allSettings()) {
            int steps = 0;
            for (int r = 0; r < 4; r++) {
                int way = Math.abs(one[8 + r] - now.turn[r]);
                steps += Math.min(way, 8 - way);
            }
            boolean good = true;
            for (int f = 0; f < 8; f++) {
                int want = now.wanted.getOrDefault(f, -1);
                good &= want == -1 || want == one[f];
            }
            if (good && steps < best) {
                best = steps;
                choice = one;
            }
        }
        return choice == null ? -1 : ring == -1 ? best : choice[8 + ring];
    }

    int cleared(int field, int v, int what) {
        if (!in(field, 0, 7) || !in(v, 0, 400) || !in(what, 0, 1)) {
            return -1;
        }
        for (int many = 0; many <= 4; many++) {
            for (int mask = 0; mask < 16; mask++) {
                if (Integer.bitCount(mask) != many) {
                    continue;
                }
                State s = now.copy();
                boolean can = true;
                for (int r = 0; r < 4; r++) {
                    for (int h = 0; h < 8; h++) {
                        if ((mask >> r & 1) == 1 && s.below(r, h) == field) {
                            can &= s.blocked[r][h];
                            s.blocked[r][h] = false;
                        }
                    }
                }
                if (can && s.flow(field) >= v) {
                    return what == 0 ? many : mask;
                }
            }
        }
        return -1;
    }

    int drought(int field) {
        if (!in(field, 0, 7)) {
            return -1;
        }
        StringBuilder days = new StringBuilder();
        State s = now.copy();
        for (int i = 0; i < 60; i++, s.hour()) {
            days.append(s.flow(field) == 0 ? 'd' : ' ');
        }
        return Arrays.stream(days.toString().split(" ")).mapToInt(String::length).max().orElse(0);
    }

    int luck(int field) {
        if (!in(field, 0, 7)) {
            return -1;
        }
        int fewer = 0;
        for (int f = 0; f < 8; f++) {
            fewer += now.flow(f) < now.flow(field) ? 1 : 0;
        }
        return fewer;
    }

    int together(int one, int other) {
        if (!in(one, 0, 3) || !in(other, 0, 3) || one == other) {
            return -1;
        }
        State s = now.copy();
        int apart = Math.floorMod(s.turn[one] - s.turn[other], 8);
        for (int i = 1;; i++) {
            s.hour();
            if (Math.floorMod(s.turn[one] - s.turn[other], 8) == apart) {
                return i;
            }
        }
    }

    int settled(int bucket) {
        int n = now.buckets.size();
        if (!in(bucket, 0, n - 1)) {
            return -1;
        }
        int[] has = new int[n];
        for (int b = 0; b < n; b++) {
            int owed = now.buckets.get(b)[1] / 2;
            has[b] += now.buckets.get(b)[1] - owed;
            has[(b + 1) % n] += owed;
        }
        return has[bucket];
    }

    long few(int k, int n) {
        if (!in(k, 1, 20) || !in(n, 0, 99)) {
            return -1;
        }
        long[] parts = new long[101];
        parts[0] = 1000000000000L;
        for (int hole = 0; hole < n; hole++) {
            long[] next = new long[101];
            for (int did = 0; did < 100; did++) {
                next[did] += parts[did] * (10 - now.terms[3]) / 10;
                next[did + 1] += parts[did] * now.terms[3] / 10;
            }
            parts = next;
        }
        return Arrays.stream(parts, 0, k).sum();
    }

    int worth(int law) {
        if (!in(law, -1, now.laws.size() - 1)) {
            return -1;
        }
        State s = now.copy();
        s.force = law;
        int sum = 0;
        for (int b = 0; b < s.buckets.size(); b++) {
            sum += s.buckets.get(b)[1] * s.pays(b);
        }
        return sum;
    }

    int years(int seed, int n) {
        if (!in(seed, 0, 1000000) || !in(n, 1, 60)) {
            return no(-1);
        }
        years = now.copy();
        long[] s = {seed};
        java.util.function.IntUnaryOperator draw = m -> {
            s[0] = (s[0] * 1103 + 12345) % 1000003;
            return (int) (s[0] % m);
        };
        int caught = 0;
        for (int i = 0; i < n && years.terms[0] != 999; i++) {
            int r = draw.applyAsInt(4);
            int h = draw.applyAsInt(8);
            int what = draw.applyAsInt(3);
            if (what == 0) {
                years.blocked[r][h] = !years.blocked[r][h];
            } else if (what == 1) {
                years.bore[r][h] = Math.min(9, years.bore[r][h] + 1);
            }
            caught += years.hour();
        }
        return yes(caught);
    }

    int drawn(int k, int what) {
        if (years == null || !in(what, 0, 2) || !in(k, 0, what == 2 ? years.buckets.size() - 1 : 3)) {
            return -1;
        }
        return what == 0 ? Arrays.stream(years.bore[k]).sum() : what == 1 ? years.turn[k] : years.buckets.get(k)[1];
    }

    int image(int k) {
        if (!in(k, 0, 1)) {
            return no(-1);
        }
        images[k] = now.copy();
        return yes(0);
    }

    int back(int k) {
        if (!in(k, 0, 1)) {
            return no(-1);
        }
        if (images[k] == null) {
            return no(-2);
        }
        now = images[k].copy();
        past.clear();
        return yes(0);
    }

    int count(int what) {
        if (!in(what, 0, 16)) {
            return -1;
        }
        int blocked = 0;
        for (boolean[] ring : now.blocked) {
            for (boolean one : ring) {
                blocked += one ? 1 : 0;
            }
        }
        return new int[] {
            now.buckets.size(), now.levels(), blocked, now.seen.size(), now.laws.size(), past.size(), tape.length(),
            refused.getOrDefault(-1, 0), refused.getOrDefault(-2, 0), refused.getOrDefault(-3, 0),
            refused.getOrDefault(-5, 0), refused.getOrDefault(-6, 0),
            now.force, now.terms[0], now.terms[1], now.terms[2], now.terms[3]}[what];
    }

    int status() {
        return status;
    }
}
