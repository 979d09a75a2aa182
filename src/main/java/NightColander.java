import java.util.Arrays;

/**
 * A night that is a colander: rings of holes that turn, threads that fall from them on to fields,
 * buckets that catch them, laws and orders in two small languages. The document's promises are
 * kept by the public methods; the classes inside hold what they share.
 */
public final class NightColander {
    public static final int NONE = -1;

    private static final int BAD_NUMBER = -1;
    private static final int NO_SUCH = -2;
    private static final int CANNOT_BE = -3;
    private static final int NO_ROOM = -5;
    private static final int BAD_TEXT = -6;

    private static final int RINGS = 4;
    private static final int HOLES = 8;
    private static final int FIELDS = 8;
    private static final int MOST_BUCKETS = 3;
    private static final int MOST_SEEN = 6;
    private static final int MOST_LAWS = 6;
    private static final int MOST_BORE = 9;
    private static final int MOST_THREADS = 400;
    private static final int LAST_HOUR = 999;

    private static final int HOUR = 0;
    private static final int WET = 1;
    private static final int MOOD = 2;
    private static final int RUST = 3;
    private static final int[] MOST_TERM = {999, 9, 9, 10};

    // The deeds bear the numbers that undo() answers; the verbs of orders stand in the same order.
    private static final int BLOCK = 0;
    private static final int REAM = 1;
    private static final int SET = 2;
    private static final int PASS = 3;

    // What a clause of a law tells, as the verbs of laws stand.
    private static final int RUNS = 0;
    private static final int LEAKS = 1;
    private static final int PAYS = 2;
    private static final int BARS = 3;

    // Lies beyond all that a sum can be, so that it can't be mistaken for a value.
    private static final int BROKEN = Integer.MIN_VALUE;

    private final Night now = new Night();
    private final Night[] images = {new Night(), new Night()};
    private final boolean[] imageKept = new boolean[2];
    private final Night yearsNight = new Night();
    private final Night aheadNight = new Night();
    private final Past past = new Past();
    private final Past aheadPast = new Past();
    private final Tape tape = new Tape();
    private final Parser parser = new Parser(tape);
    private final Judge judge = new Judge();
    private final Deeds deeds = new Deeds(judge);
    private final Runner runner = new Runner(judge, deeds);
    private final Paper paper = new Paper(judge);
    private final int[] refusals = new int[5];
    private boolean yearsKept = false;
    private int latestStatus = 0;
    private int latestPeas = 0;
    private int latestFault = NONE;
    private int latestStop = NONE;

    public NightColander() {
    }

    public int hole(int ring, int hole, int what) {
        if (!isRing(ring) || !isHole(hole)) {
            return NONE;
        }
        switch (what) {
            case 0:
                return now.bores[ring * HOLES + hole];
            case 1:
                return now.blocked[ring * HOLES + hole] ? 1 : 0;
            case 2:
                return now.fieldBelow(ring, hole);
            case 3:
                return now.blocked[ring * HOLES + hole] ? 0 : judge.runsOf(now, ring, hole);
            default:
                return NONE;
        }
    }

    public int turn(int ring, int t) {
        if (!isRing(ring) || !within(t, 0, HOLES - 1)) {
            return refuse(BAD_NUMBER);
        }
        int was = now.turns[ring];
        now.turns[ring] = t;
        past.clear();
        return accept(was);
    }

    public int bucket(int size, int field) {
        if (!within(size, 1, 99) || !isField(field)) {
            return refuse(BAD_NUMBER);
        }
        if (now.bucketAt(field) != NONE) {
            return refuse(CANNOT_BE);
        }
        if (now.bucketCount >= MOST_BUCKETS) {
            return refuse(NO_ROOM);
        }
        past.clear();
        return accept(now.addBucket(size, field));
    }

    public int of(int bucket, int what) {
        if (!now.hasBucket(bucket)) {
            return NONE;
        }
        switch (what) {
            case 0:
                return now.sizes[bucket];
            case 1:
                return now.levels[bucket];
            case 2:
                return now.fields[bucket];
            case 3:
                return judge.leakOf(now, bucket);
            case 4:
                return judge.payOf(now, bucket, now.fields[bucket]);
            default:
                return within(what, 5, 4 + FIELDS) ? barredAsNumber(bucket, what - 5) : NONE;
        }
    }

    public int wanted(int field, int threads) {
        if (!isField(field) || !within(threads, NONE, MOST_THREADS)) {
            return refuse(BAD_NUMBER);
        }
        int was = now.wants[field];
        now.wants[field] = threads;
        return accept(was);
    }

    public int flow(int field) {
        return isField(field) ? judge.threadsOn(now, field) : NONE;
    }

    public int terms(int what, int value) {
        if (!within(what, HOUR, RUST) || !within(value, 0, MOST_TERM[what])) {
            return refuse(BAD_NUMBER);
        }
        int was = now.terms[what];
        now.terms[what] = value;
        past.clear();
        return accept(was);
    }

    public int feed(int a, int b, int c, int d, int e) {
        if (!tape.hasRoomFor(20)) {
            return NONE;
        }
        tape.addFour(a);
        tape.addFour(b);
        tape.addFour(c);
        tape.addFour(d);
        tape.addFour(e);
        return tape.length;
    }

    public int end(int n) {
        if (!within(n, 0, tape.length)) {
            return NONE;
        }
        tape.length = n;
        return n;
    }

    public int row() {
        if (tape.length == 0) {
            return refuse(BAD_TEXT);
        }
        int told = 0;
        int peas = 0;
        for (int at = 0; at < tape.length; at += 3) {
            if (tellHole(at)) {
                told++;
            } else {
                peas++;
            }
        }
        tape.length = 0;
        latestPeas = peas;
        past.clear();
        return accept(told);
    }

    public int peas() {
        return latestPeas;
    }

    public int law() {
        if (now.lawCount >= MOST_LAWS) {
            tape.length = 0;
            return refuse(NO_ROOM);
        }
        latestFault = parser.parse(false);
        tape.length = 0;
        if (latestFault != NONE) {
            return refuse(BAD_TEXT);
        }
        return accept(now.addLaw(parser.text.copy()));
    }

    public int orders() {
        latestStop = NONE;
        latestFault = parser.parse(true);
        tape.length = 0;
        if (latestFault != NONE) {
            return refuse(BAD_TEXT);
        }
        aheadNight.copyFrom(now);
        aheadPast.copyFrom(past);
        latestStop = runner.run(now, past, parser.text);
        if (latestStop != NONE) {
            now.copyFrom(aheadNight);
            past.copyFrom(aheadPast);
            return refuse(CANNOT_BE);
        }
        return accept(runner.done);
    }

    public int fault() {
        return latestFault;
    }

    public int stopped() {
        return latestStop;
    }

    public int force(int law) {
        if (law != NONE && !now.hasLaw(law)) {
            return refuse(NO_SUCH);
        }
        int was = now.inForce;
        now.inForce = law;
        return accept(was);
    }

    public int block(int hole, int ring) {
        return answered(deeds.perform(now, past, BLOCK, hole, ring));
    }

    public int ream(int hole, int ring) {
        return answered(deeds.perform(now, past, REAM, hole, ring));
    }

    public int set(int bucket, int field) {
        return answered(deeds.perform(now, past, SET, bucket, field));
    }

    public int pass() {
        return answered(deeds.perform(now, past, PASS, 0, 0));
    }

    public int undo() {
        return answered(past.takeBack(now));
    }

    public int when(int field, int v) {
        if (!isField(field) || !within(v, 0, MOST_THREADS)) {
            return NONE;
        }
        return paper.hoursUntil(now, field, v);
    }

    public int placed(int n, int what) {
        if (!within(n, 1, 9) || what < 0 || (what > 0 && !now.hasBucket(what - 1))) {
            return NONE;
        }
        if (!paper.place(now, n)) {
            return NONE;
        }
        return what == 0 ? paper.best : paper.digitOfChoice(now.bucketCount - what);
    }

    public int seen(int field, int threads) {
        if (!isField(field) || !within(threads, 0, MOST_THREADS)) {
            return refuse(BAD_NUMBER);
        }
        if (now.seenCount >= MOST_SEEN) {
            return refuse(NO_ROOM);
        }
        return accept(now.addSeen(field, threads));
    }

    public int forget() {
        int was = now.seenCount;
        now.seenCount = 0;
        return was;
    }

    public int settings(int i) {
        return i < NONE ? NONE : paper.settingAt(now, i);
    }

    public int look(int what) {
        if (!within(what, 0, 1) || !paper.findLook(now)) {
            return NONE;
        }
        return what == 0 ? paper.choice : paper.best;
    }

    public int turned(int ring) {
        if (!within(ring, NONE, RINGS - 1) || !paper.findTurns(now)) {
            return NONE;
        }
        return ring == NONE ? paper.best : paper.digitOfChoice(RINGS - 1 - ring);
    }

    public int cleared(int field, int v, int what) {
        if (!isField(field) || !within(v, 0, MOST_THREADS) || !within(what, 0, 1)) {
            return NONE;
        }
        if (!paper.findCleared(now, field, v)) {
            return NONE;
        }
        return what == 0 ? paper.best : paper.choice;
    }

    public int drought(int field) {
        return isField(field) ? paper.longestDrought(now, field) : NONE;
    }

    public int luck(int field) {
        if (!isField(field)) {
            return NONE;
        }
        int own = judge.threadsOn(now, field);
        int fewer = 0;
        for (int other = 0; other < FIELDS; other++) {
            if (judge.threadsOn(now, other) < own) {
                fewer++;
            }
        }
        return fewer;
    }

    public int together(int one, int other) {
        if (!isRing(one) || !isRing(other) || one == other) {
            return NONE;
        }
        for (int hours = 1; hours < HOLES; hours++) {
            // Each ring's speed is its number and one, so only the numbers' difference counts.
            if (Math.floorMod((one - other) * hours, HOLES) == 0) {
                return hours;
            }
        }
        return HOLES;
    }

    public int settled(int bucket) {
        if (!now.hasBucket(bucket)) {
            return NONE;
        }
        int debtor = bucket == 0 ? now.bucketCount - 1 : bucket - 1;
        return now.levels[bucket] - now.levels[bucket] / 2 + now.levels[debtor] / 2;
    }

    public long few(int k, int n) {
        if (!within(k, 1, 20) || !within(n, 0, 99)) {
            return NONE;
        }
        return paper.chanceOfFew(k, n, now.terms[RUST]);
    }

    public int worth(int law) {
        if (law != NONE && !now.hasLaw(law)) {
            return NONE;
        }
        return paper.worthBy(now, law);
    }

    public int years(int seed, int n) {
        if (!within(seed, 0, 1000000) || !within(n, 1, 60)) {
            return refuse(BAD_NUMBER);
        }
        yearsNight.copyFrom(now);
        yearsKept = true;
        return accept(deeds.runYears(yearsNight, seed, n));
    }

    public int drawn(int k, int what) {
        if (!yearsKept) {
            return NONE;
        }
        switch (what) {
            case 0:
                return isRing(k) ? yearsNight.boresOfRing(k) : NONE;
            case 1:
                return isRing(k) ? yearsNight.turns[k] : NONE;
            case 2:
                return yearsNight.hasBucket(k) ? yearsNight.levels[k] : NONE;
            default:
                return NONE;
        }
    }

    public int image(int k) {
        if (!within(k, 0, 1)) {
            return refuse(BAD_NUMBER);
        }
        images[k].copyFrom(now);
        imageKept[k] = true;
        return accept(0);
    }

    public int back(int k) {
        if (!within(k, 0, 1)) {
            return refuse(BAD_NUMBER);
        }
        if (!imageKept[k]) {
            return refuse(NO_SUCH);
        }
        now.copyFrom(images[k]);
        past.clear();
        return accept(0);
    }

    public int count(int what) {
        if (within(what, 7, 11)) {
            return refusals[what - 7];
        }
        if (within(what, 13, 16)) {
            return now.terms[what - 13];
        }
        switch (what) {
            case 0:
                return now.bucketCount;
            case 1:
                return now.allLevels();
            case 2:
                return now.blockedHoles();
            case 3:
                return now.seenCount;
            case 4:
                return now.lawCount;
            case 5:
                return past.kept;
            case 6:
                return tape.length;
            case 12:
                return now.inForce;
            default:
                return NONE;
        }
    }

    public int status() {
        return latestStatus;
    }

    private static boolean within(int value, int least, int most) {
        return value >= least && value <= most;
    }

    private static boolean isRing(int ring) {
        return within(ring, 0, RINGS - 1);
    }

    private static boolean isHole(int hole) {
        return within(hole, 0, HOLES - 1);
    }

    private static boolean isField(int field) {
        return within(field, 0, FIELDS - 1);
    }

    private int accept(int answer) {
        latestStatus = 0;
        return answer;
    }

    private int refuse(int code) {
        latestStatus = code;
        // There is no code -4, so the two behind it move up by one.
        int at = code > -4 ? -1 - code : -2 - code;
        if (within(at, 0, refusals.length - 1)) {
            refusals[at]++;
        }
        return code;
    }

    // For calls whose answers are never below 0 unless they are refused.
    private int answered(int answer) {
        return answer < 0 ? refuse(answer) : accept(answer);
    }

    private int barredAsNumber(int bucket, int field) {
        return judge.isBarred(now, bucket, field) ? 1 : 0;
    }

    private boolean tellHole(int at) {
        if (at + 3 > tape.length) {
            return false;
        }
        int ring = tape.byteAt(at);
        int hole = tape.byteAt(at + 1);
        int bore = tape.byteAt(at + 2);
        if (!isRing(ring) || !isHole(hole) || !within(bore, 0, MOST_BORE)) {
            return false;
        }
        now.bores[ring * HOLES + hole] = bore;
        now.blocked[ring * HOLES + hole] = false;
        return true;
    }

    /** All that an image keeps. */
    private static final class Night {
        final int[] bores = new int[RINGS * HOLES];
        final boolean[] blocked = new boolean[RINGS * HOLES];
        final int[] turns = new int[RINGS];
        final int[] sizes = new int[MOST_BUCKETS];
        final int[] levels = new int[MOST_BUCKETS];
        final int[] fields = new int[MOST_BUCKETS];
        final int[] wants = new int[FIELDS];
        final int[] seenFields = new int[MOST_SEEN];
        final int[] seenThreads = new int[MOST_SEEN];
        final int[] terms = new int[4];
        final Text[] laws = new Text[MOST_LAWS];
        int bucketCount = 0;
        int seenCount = 0;
        int lawCount = 0;
        int inForce = NONE;

        Night() {
            Arrays.fill(bores, 1);
            Arrays.fill(wants, NONE);
            terms[WET] = 3;
            terms[RUST] = 1;
        }

        void copyFrom(Night other) {
            System.arraycopy(other.bores, 0, bores, 0, bores.length);
            System.arraycopy(other.turns, 0, turns, 0, turns.length);
            System.arraycopy(other.sizes, 0, sizes, 0, sizes.length);
            System.arraycopy(other.levels, 0, levels, 0, levels.length);
            System.arraycopy(other.fields, 0, fields, 0, fields.length);
            System.arraycopy(other.wants, 0, wants, 0, wants.length);
            System.arraycopy(other.seenFields, 0, seenFields, 0, seenFields.length);
            System.arraycopy(other.seenThreads, 0, seenThreads, 0, seenThreads.length);
            System.arraycopy(other.terms, 0, terms, 0, terms.length);
            for (int i = 0; i < RINGS * HOLES; i++) {
                blocked[i] = other.blocked[i];
            }
            for (int i = 0; i < MOST_LAWS; i++) {
                laws[i] = other.laws[i];
            }
            bucketCount = other.bucketCount;
            seenCount = other.seenCount;
            lawCount = other.lawCount;
            inForce = other.inForce;
        }

        boolean hasBucket(int bucket) {
            return within(bucket, 0, bucketCount - 1);
        }

        boolean hasLaw(int law) {
            return within(law, 0, lawCount - 1);
        }

        Text lawInForce() {
            return inForce >= 0 && inForce < MOST_LAWS ? laws[inForce] : null;
        }

        int fieldBelow(int ring, int hole) {
            return Math.floorMod(hole + turns[ring], FIELDS);
        }

        int holeAbove(int ring, int field) {
            return Math.floorMod(field - turns[ring], HOLES);
        }

        int bucketAt(int field) {
            for (int b = 0; b < bucketCount; b++) {
                if (fields[b] == field) {
                    return b;
                }
            }
            return NONE;
        }

        // The caller has seen that there is room.
        int addBucket(int size, int field) {
            if (bucketCount >= MOST_BUCKETS) {
                return NONE;
            }
            sizes[bucketCount] = size;
            levels[bucketCount] = 0;
            fields[bucketCount] = field;
            bucketCount++;
            return bucketCount - 1;
        }

        // The caller has seen that there is room.
        int addSeen(int field, int threads) {
            if (seenCount >= MOST_SEEN) {
                return NONE;
            }
            seenFields[seenCount] = field;
            seenThreads[seenCount] = threads;
            seenCount++;
            return seenCount;
        }

        // The caller has seen that there is room.
        int addLaw(Text law) {
            if (lawCount >= MOST_LAWS) {
                return NONE;
            }
            laws[lawCount] = law;
            lawCount++;
            return lawCount - 1;
        }

        int allLevels() {
            int sum = 0;
            for (int b = 0; b < bucketCount; b++) {
                sum += levels[b];
            }
            return sum;
        }

        int blockedHoles() {
            int sum = 0;
            for (boolean one : blocked) {
                sum += one ? 1 : 0;
            }
            return sum;
        }

        int boresOfRing(int ring) {
            int sum = 0;
            for (int h = 0; h < HOLES; h++) {
                sum += bores[ring * HOLES + h];
            }
            return sum;
        }

        // By one hour on (1) or back (-1): no limit here, as plans on paper go beyond the last hour.
        void turnAll(int hours) {
            for (int r = 0; r < RINGS; r++) {
                turns[r] = Math.floorMod(turns[r] + hours * (r + 1), HOLES);
            }
            terms[HOUR] += hours;
        }
    }

    /** What can be undone: the latest deeds, each with what it takes to go back. */
    private static final class Past {
        private static final int MOST_KEPT = 16;
        private static final int WIDTH = 3 + MOST_BUCKETS;

        final int[] rows = new int[MOST_KEPT * WIDTH];
        int kept = 0;

        void clear() {
            kept = 0;
        }

        void copyFrom(Past other) {
            System.arraycopy(other.rows, 0, rows, 0, rows.length);
            kept = other.kept;
        }

        // To be called ahead of the deed: the buckets' numbers are those to go back to.
        void add(int deed, int a, int b, int[] ofBuckets) {
            if (kept >= MOST_KEPT) {
                System.arraycopy(rows, WIDTH, rows, 0, rows.length - WIDTH);
                kept = MOST_KEPT - 1;
            }
            int at = kept * WIDTH;
            rows[at] = deed;
            rows[at + 1] = a;
            rows[at + 2] = b;
            System.arraycopy(ofBuckets, 0, rows, at + 3, MOST_BUCKETS);
            kept++;
        }

        int takeBack(Night night) {
            if (kept <= 0) {
                return CANNOT_BE;
            }
            kept--;
            int at = kept * WIDTH;
            int deed = rows[at];
            // Of the other deeds the two numbers are no hole and no ring.
            int hole = deed == BLOCK || deed == REAM ? rows[at + 2] * HOLES + rows[at + 1] : 0;
            switch (deed) {
                case BLOCK:
                    night.blocked[hole] = !night.blocked[hole];
                    break;
                case REAM:
                    night.bores[hole]--;
                    break;
                case SET:
                    System.arraycopy(rows, at + 3, night.fields, 0, MOST_BUCKETS);
                    break;
                default:
                    System.arraycopy(rows, at + 3, night.levels, 0, MOST_BUCKETS);
                    night.turnAll(-1);
                    break;
            }
            return deed;
        }
    }

    /** A text that was read, as steps for a stack; of each clause where its parts stand. */
    private static final class Text {
        static final int MOST_CLAUSES = 12;
        static final int MOST_STEPS = 400;
        static final int MARKS = 4;

        static final int NUMBER = 0;
        static final int WORD = 1;
        static final int NOT = 2;
        static final int AND = 3;
        static final int OR = 4;
        static final int PLUS = 5;
        static final int MINUS = 6;
        static final int TIMES = 7;
        static final int DIVIDED = 8;
        static final int LEFT = 9;
        static final int BELOW = 10;
        static final int ABOVE = 11;
        static final int SAME = 12;

        // Step i is the operation in the low 4 bits and what it works with above them.
        final int[] steps;
        final int[] kinds;
        final int[] times;
        final int[] words;
        final int[] marks;
        int length = 0;
        int clauses = 0;

        Text() {
            steps = new int[MOST_STEPS];
            kinds = new int[MOST_CLAUSES];
            times = new int[MOST_CLAUSES];
            words = new int[MOST_CLAUSES];
            marks = new int[MOST_CLAUSES * MARKS];
        }

        private Text(Text other) {
            steps = Arrays.copyOf(other.steps, Math.max(other.length, 0));
            kinds = Arrays.copyOf(other.kinds, MOST_CLAUSES);
            times = Arrays.copyOf(other.times, MOST_CLAUSES);
            words = Arrays.copyOf(other.words, MOST_CLAUSES);
            marks = Arrays.copyOf(other.marks, MOST_CLAUSES * MARKS);
            length = other.length;
            clauses = other.clauses;
        }

        Text copy() {
            return new Text(this);
        }

        void clear() {
            length = 0;
            clauses = 0;
        }

        void openClause(int kind) {
            if (clauses < MOST_CLAUSES) {
                kinds[clauses] = kind;
                times[clauses] = 1;
                words[clauses] = 0;
                mark(0);
            }
        }

        // From here on the clause's next part stands, and all behind it.
        void mark(int part) {
            if (clauses < MOST_CLAUSES) {
                for (int i = Math.max(part, 0); i < MARKS; i++) {
                    marks[clauses * MARKS + i] = length;
                }
            }
        }

        void setTimes(int often) {
            if (clauses < MOST_CLAUSES) {
                times[clauses] = often;
            }
        }

        void closeClause() {
            mark(MARKS - 1);
            clauses++;
        }

        int add(int operation, int with) {
            if (length < steps.length) {
                steps[length] = operation | (with << 4);
                length++;
            }
            return length - 1;
        }

        void addWord(int word) {
            add(WORD, word);
            if (clauses < MOST_CLAUSES) {
                words[clauses] |= 1 << word;
            }
        }

        // Lets the step leap behind all that has been added since.
        void leapHere(int step) {
            if (within(step, 0, length - 1)) {
                steps[step] = (steps[step] & 15) | (length << 4);
            }
        }

        int markOf(int clause, int part) {
            int at = clause * MARKS + part;
            return at >= 0 && at < marks.length ? marks[at] : 0;
        }
    }

    /** The bytes that were fed, and the token at which reading stands. */
    private static final class Tape {
        static final int MOST_BYTES = 400;

        private static final int END = 0;
        private static final int LETTERS = 1;
        private static final int DIGITS = 2;
        private static final int SIGN = 3;
        // A number of any length ends up here at most: beyond all that a text may say.
        private static final int BEYOND = 10000;

        private final byte[] bytes = new byte[MOST_BYTES];
        int length = 0;
        private int kind = END;
        private int start = 0;
        private int behind = 0;
        private int value = 0;

        boolean hasRoomFor(int more) {
            return length + more <= MOST_BYTES;
        }

        void addFour(int number) {
            for (int shift = 24; shift >= 0 && length < MOST_BYTES; shift -= 8) {
                bytes[length] = (byte) (number >> shift);
                length++;
            }
        }

        int byteAt(int at) {
            return at >= 0 && at < length && at < MOST_BYTES ? bytes[at] & 255 : 0;
        }

        void rewind() {
            behind = 0;
            advance();
        }

        void advance() {
            start = behind;
            while (start < length && byteAt(start) == ' ') {
                start++;
            }
            behind = start;
            value = 0;
            if (start >= length) {
                kind = END;
            } else if (isLetter(byteAt(start))) {
                kind = LETTERS;
                while (behind < length && isLetter(byteAt(behind))) {
                    behind++;
                }
            } else if (isDigit(byteAt(start))) {
                kind = DIGITS;
                while (behind < length && isDigit(byteAt(behind))) {
                    value = Math.min(value * 10 + byteAt(behind) - '0', BEYOND);
                    behind++;
                }
            } else {
                kind = SIGN;
                behind++;
            }
        }

        int place() {
            return start;
        }

        boolean atEnd() {
            return kind == END;
        }

        boolean atSign(char sign) {
            return kind == SIGN && byteAt(start) == sign;
        }

        boolean atWord(String word) {
            return kind == LETTERS && isSame(word, 0, word.length());
        }

        boolean atNumber(int least, int most) {
            return kind == DIGITS && within(value, least, most);
        }

        int number() {
            return value;
        }

        // Which of the list's words the token is; each of them has a blank behind it.
        int indexIn(String list) {
            if (kind != LETTERS) {
                return NONE;
            }
            int index = 0;
            int from = 0;
            for (int i = 0; i < list.length(); i++) {
                if (list.charAt(i) == ' ') {
                    if (isSame(list, from, i)) {
                        return index;
                    }
                    index++;
                    from = i + 1;
                }
            }
            return NONE;
        }

        // Which of the signs the token is.
        int signIn(String signs) {
            return kind == SIGN ? signs.indexOf((char) byteAt(start)) : NONE;
        }

        private boolean isSame(String list, int from, int to) {
            if (to - from != behind - start) {
                return false;
            }
            for (int i = from; i < to; i++) {
                if (list.charAt(i) != byteAt(start + i - from)) {
                    return false;
                }
            }
            return true;
        }

        private static boolean isLetter(int one) {
            return one >= 'a' && one <= 'z';
        }

        private static boolean isDigit(int one) {
            return one >= '0' && one <= '9';
        }
    }

    /** Reads a text of either language; where a method answers false, the fault is at the token. */
    private static final class Parser {
        private static final int MOST_PARTS = 50;
        private static final int MOST_BRACKETS = 8;
        private static final int MOST_NUMBER = 1000;
        private static final int MOST_TIMES = 20;

        private static final String LAW_VERBS = "runs leaks pays bars ";
        private static final String ORDER_VERBS = "block ream set pass ";
        private static final String LAW_WORDS = "ring hole bore field bucket level hour wet mood ";
        private static final String ORDER_WORDS = "hour done latest caught turn level flow ";

        // Of "turn", "level", "flow": the numbers that may stand behind, and the words' own numbers.
        private static final int FIRST_WITH_NUMBER = 4;
        private static final int[] MOST_BEHIND = {3, 2, 7};
        private static final int[] FIRST_OF_WORD = {4, 8, 11};

        final Text text = new Text();
        private final Tape tape;
        private boolean ordering = false;
        private int parts = 0;

        Parser(Tape tape) {
            this.tape = tape;
        }

        // The place of the fault, NONE without.
        int parse(boolean asOrders) {
            ordering = asOrders;
            parts = 0;
            text.clear();
            tape.rewind();
            for (int c = 0; c < Text.MOST_CLAUSES; c++) {
                if (!readClause()) {
                    return tape.place();
                }
                if (tape.atEnd()) {
                    return NONE;
                }
                if (!tape.atSign(';')) {
                    return tape.place();
                }
                tape.advance();
            }
            return tape.place();
        }

        private boolean readClause() {
            int verb = tape.indexIn(ordering ? ORDER_VERBS : LAW_VERBS);
            if (verb == NONE) {
                return false;
            }
            text.openClause(verb);
            tape.advance();
            if (!(ordering ? readOrder(verb) : readLaw(verb))) {
                return false;
            }
            if (tape.atWord("if")) {
                tape.advance();
                if (!readTest(0)) {
                    return false;
                }
            }
            text.closeClause();
            return true;
        }

        private boolean readLaw(int verb) {
            if (verb != BARS && !readSum(0)) {
                return false;
            }
            text.mark(1);
            return true;
        }

        private boolean readOrder(int verb) {
            if (verb != PASS && !readTwoSums(verb == SET ? "at" : "of")) {
                return false;
            }
            if (tape.atWord("times")) {
                tape.advance();
                if (!tape.atNumber(1, MOST_TIMES)) {
                    return false;
                }
                text.setTimes(tape.number());
                tape.advance();
            }
            return true;
        }

        private boolean readTwoSums(String between) {
            if (!readSum(0)) {
                return false;
            }
            text.mark(1);
            if (!tape.atWord(between)) {
                return false;
            }
            tape.advance();
            if (!readSum(0)) {
                return false;
            }
            text.mark(2);
            return true;
        }

        private boolean readTest(int depth) {
            if (!readBoth(depth)) {
                return false;
            }
            for (int i = 0; i < Tape.MOST_BYTES && tape.atWord("or"); i++) {
                tape.advance();
                int leap = text.add(Text.OR, 0);
                if (!readBoth(depth)) {
                    return false;
                }
                text.leapHere(leap);
            }
            return true;
        }

        private boolean readBoth(int depth) {
            if (!readPlain(depth)) {
                return false;
            }
            for (int i = 0; i < Tape.MOST_BYTES && tape.atWord("and"); i++) {
                tape.advance();
                int leap = text.add(Text.AND, 0);
                if (!readPlain(depth)) {
                    return false;
                }
                text.leapHere(leap);
            }
            return true;
        }

        private boolean readPlain(int depth) {
            boolean turnedRound = false;
            // No recursion, as a hundred of them fit on a tape.
            for (int i = 0; i < Tape.MOST_BYTES && tape.atWord("not"); i++) {
                tape.advance();
                turnedRound = !turnedRound;
            }
            boolean read = tape.atSign('(') ? readTestInBrackets(depth) : readComparison(depth);
            if (read && turnedRound) {
                text.add(Text.NOT, 0);
            }
            return read;
        }

        private boolean readTestInBrackets(int depth) {
            if (depth >= MOST_BRACKETS) {
                return false;
            }
            tape.advance();
            if (!readTest(depth + 1) || !tape.atSign(')')) {
                return false;
            }
            tape.advance();
            return true;
        }

        private boolean readComparison(int depth) {
            if (!readSum(depth)) {
                return false;
            }
            int sign = tape.signIn("<>=");
            if (sign == NONE) {
                return false;
            }
            tape.advance();
            if (!readSum(depth)) {
                return false;
            }
            text.add(Text.BELOW + sign, 0);
            return true;
        }

        private boolean readSum(int depth) {
            if (!readTerm(depth)) {
                return false;
            }
            for (int i = 0; i < Tape.MOST_BYTES && tape.signIn("+-") != NONE; i++) {
                int sign = tape.signIn("+-");
                tape.advance();
                if (!readTerm(depth)) {
                    return false;
                }
                text.add(Text.PLUS + sign, 0);
            }
            return true;
        }

        private boolean readTerm(int depth) {
            if (!readPart(depth)) {
                return false;
            }
            for (int i = 0; i < Tape.MOST_BYTES && tape.signIn("*/%") != NONE; i++) {
                int sign = tape.signIn("*/%");
                tape.advance();
                if (!readPart(depth)) {
                    return false;
                }
                text.add(Text.TIMES + sign, 0);
            }
            return true;
        }

        private boolean readPart(int depth) {
            if (tape.atSign('[')) {
                return readSumInBrackets(depth);
            }
            if (parts >= MOST_PARTS) {
                return false;
            }
            parts++;
            if (tape.atNumber(0, MOST_NUMBER)) {
                text.add(Text.NUMBER, tape.number());
                tape.advance();
                return true;
            }
            int word = tape.indexIn(ordering ? ORDER_WORDS : LAW_WORDS);
            if (word == NONE) {
                return false;
            }
            tape.advance();
            if (ordering && word >= FIRST_WITH_NUMBER) {
                return readNumberOf(word - FIRST_WITH_NUMBER);
            }
            text.addWord(word);
            return true;
        }

        private boolean readSumInBrackets(int depth) {
            if (depth >= MOST_BRACKETS) {
                return false;
            }
            tape.advance();
            if (!readSum(depth + 1) || !tape.atSign(']')) {
                return false;
            }
            tape.advance();
            return true;
        }

        private boolean readNumberOf(int word) {
            if (!within(word, 0, MOST_BEHIND.length - 1) || !tape.atNumber(0, MOST_BEHIND[word])) {
                return false;
            }
            text.addWord(FIRST_OF_WORD[word] + tape.number());
            tape.advance();
            return true;
        }
    }

    /** Works out a sum or a test, of which 1 is so, 0 is not. */
    private static final class Machine {
        private static final int MOST = 1000000000;
        private final int[] stack = new int[64];

        // Calls nothing, not even Math's, as it stands at the end of the longest chain of calls.
        int work(Text text, int from, int to, int[] words) {
            int top = NONE;
            int behind = to < text.length ? to : text.length;
            for (int at = from > 0 ? from : 0; at < behind; at++) {
                int operation = text.steps[at] & 15;
                int with = text.steps[at] >> 4;
                if (operation == Text.NUMBER || operation == Text.WORD) {
                    top++;
                    if (top >= stack.length || with < 0 || (operation == Text.WORD && with >= words.length)) {
                        return BROKEN;
                    }
                    stack[top] = operation == Text.WORD ? words[with] : with;
                    continue;
                }
                if (top < (operation <= Text.OR ? 0 : 1)) {
                    return BROKEN;
                }
                long right = stack[top];
                long left = top > 0 ? stack[top - 1] : 0;
                long result;
                switch (operation) {
                    case Text.NOT:
                        stack[top] = right == 0 ? 1 : 0;
                        continue;
                    case Text.AND:
                    case Text.OR:
                        if (right == (operation == Text.OR ? 1 : 0)) {
                            at = with > at ? with - 1 : at;
                        } else {
                            top--;
                        }
                        continue;
                    case Text.PLUS:
                    case Text.MINUS:
                        result = operation == Text.PLUS ? left + right : left - right;
                        break;
                    case Text.TIMES:
                        result = left * right;
                        break;
                    case Text.DIVIDED:
                    case Text.LEFT:
                        if (right == 0) {
                            return BROKEN;
                        }
                        result = operation == Text.LEFT ? left % right : left / right;
                        break;
                    case Text.BELOW:
                        result = left < right ? 1 : 0;
                        break;
                    default:
                        result = (operation == Text.ABOVE ? left > right : left == right) ? 1 : 0;
                        break;
                }
                if (result > MOST || result < -MOST) {
                    return BROKEN;
                }
                top--;
                stack[top] = (int) result;
            }
            return top == 0 ? stack[0] : BROKEN;
        }
    }

    /** Asks the law in force of a night. */
    private static final class Judge {
        private static final int MOST_RUN = 99;
        private static final int MOST_LEAK = 9;
        private static final int MOST_PAY = 99;

        private final Machine machine = new Machine();
        // As the words of laws stand: ring, hole, bore, field, bucket, level, hour, wet, mood.
        private final int[] words = new int[9];

        // What the hole runs if it is not blocked, which the caller looks at.
        int runsOf(Night night, int ring, int hole) {
            int bore = night.bores[ring * HOLES + hole];
            int plain = bore * night.terms[WET];
            Text law = night.lawInForce();
            if (law == null) {
                return plain;
            }
            words[0] = ring;
            words[1] = hole;
            words[2] = bore;
            words[3] = night.fieldBelow(ring, hole);
            words[4] = NONE;
            words[5] = NONE;
            return told(night, law, RUNS, plain, MOST_RUN);
        }

        int leakOf(Night night, int bucket) {
            return askOfBucket(night, bucket, night.fields[bucket], LEAKS);
        }

        int payOf(Night night, int bucket, int field) {
            return askOfBucket(night, bucket, field, PAYS);
        }

        boolean isBarred(Night night, int bucket, int field) {
            return askOfBucket(night, bucket, field, BARS) == 1;
        }

        int runsAbove(Night night, int ring, int field) {
            int hole = night.holeAbove(ring, field);
            return night.blocked[ring * HOLES + hole] ? 0 : runsOf(night, ring, hole);
        }

        // Not by runsAbove(), which would make the longest chain of calls longer.
        int threadsOn(Night night, int field) {
            int sum = 0;
            for (int r = 0; r < RINGS; r++) {
                int hole = night.holeAbove(r, field);
                sum += night.blocked[r * HOLES + hole] ? 0 : runsOf(night, r, hole);
            }
            return sum;
        }

        private int askOfBucket(Night night, int bucket, int field, int kind) {
            int plain = kind == PAYS ? 1 : 0;
            Text law = night.lawInForce();
            if (law == null) {
                return plain;
            }
            words[0] = NONE;
            words[1] = NONE;
            words[2] = NONE;
            words[3] = field;
            words[4] = bucket;
            words[5] = night.levels[bucket];
            return told(night, law, kind, plain, kind == LEAKS ? MOST_LEAK : MOST_PAY);
        }

        // What the last clause of a kind that holds tells, put within 0 .. most; else what is plain.
        private int told(Night night, Text law, int kind, int plain, int most) {
            words[6] = night.terms[HOUR];
            words[7] = night.terms[WET];
            words[8] = night.terms[MOOD];
            for (int c = law.clauses - 1; c >= 0; c--) {
                if (law.kinds[c] != kind) {
                    continue;
                }
                int testAt = law.markOf(c, 2);
                int behind = law.markOf(c, 3);
                if (testAt < behind && machine.work(law, testAt, behind, words) != 1) {
                    continue;
                }
                if (kind == BARS) {
                    return 1;
                }
                int sum = machine.work(law, law.markOf(c, 0), law.markOf(c, 1), words);
                if (sum != BROKEN) {
                    return Math.max(0, Math.min(sum, most));
                }
            }
            return plain;
        }
    }

    /** What changes a night: the four deeds, and years by draws. */
    private static final class Deeds {
        private final Judge judge;

        Deeds(Judge judge) {
            this.judge = judge;
        }

        // Answers what the public method of that name does; what is not refused can be undone.
        int perform(Night night, Past past, int deed, int a, int b) {
            int[] ofBuckets = deed == SET ? night.fields : night.levels;
            int refusal = refusalOf(night, deed, a, b);
            if (refusal != 0) {
                return refusal;
            }
            past.add(deed, a, b, ofBuckets);
            switch (deed) {
                case BLOCK:
                    return changeBlock(night, b * HOLES + a);
                case REAM:
                    return widen(night, b * HOLES + a);
                case SET:
                    return move(night, a, b);
                default:
                    return letHourPass(night);
            }
        }

        int runYears(Night night, int seed, int n) {
            long s = seed;
            int caught = 0;
            for (int i = 0; i < n && night.terms[HOUR] < LAST_HOUR; i++) {
                s = nextDraw(s);
                int ring = (int) (s % RINGS);
                s = nextDraw(s);
                int at = ring * HOLES + (int) (s % HOLES);
                s = nextDraw(s);
                int what = (int) (s % 3);
                if (what == 0) {
                    changeBlock(night, at);
                } else if (what == 1 && night.bores[at] < MOST_BORE) {
                    widen(night, at);
                }
                caught += letHourPass(night);
            }
            return caught;
        }

        private static long nextDraw(long s) {
            return (s * 1103 + 12345) % 1000003;
        }

        private int refusalOf(Night night, int deed, int a, int b) {
            switch (deed) {
                case BLOCK:
                    return isHole(a) && isRing(b) ? 0 : BAD_NUMBER;
                case REAM:
                    if (!isHole(a) || !isRing(b)) {
                        return BAD_NUMBER;
                    }
                    return night.bores[b * HOLES + a] < MOST_BORE ? 0 : CANNOT_BE;
                case SET:
                    if (!isField(b)) {
                        return BAD_NUMBER;
                    }
                    if (!night.hasBucket(a)) {
                        return NO_SUCH;
                    }
                    return night.bucketAt(b) != NONE || judge.isBarred(night, a, b) ? CANNOT_BE : 0;
                default:
                    return night.terms[HOUR] < LAST_HOUR ? 0 : CANNOT_BE;
            }
        }

        private static int changeBlock(Night night, int at) {
            night.blocked[at] = !night.blocked[at];
            return night.blocked[at] ? 1 : 0;
        }

        private static int widen(Night night, int at) {
            night.bores[at]++;
            return night.bores[at];
        }

        private static int move(Night night, int bucket, int field) {
            int was = night.fields[bucket];
            night.fields[bucket] = field;
            return was;
        }

        private int letHourPass(Night night) {
            int caught = 0;
            for (int b = 0; b < night.bucketCount; b++) {
                int room = night.sizes[b] - night.levels[b];
                int more = Math.min(room, judge.threadsOn(night, night.fields[b]));
                night.levels[b] += more;
                caught += more;
                // No other bucket's catch hangs on this level, so it may leak at once.
                night.levels[b] = Math.max(0, night.levels[b] - judge.leakOf(night, b));
            }
            night.turnAll(1);
            return caught;
        }
    }

    /** Runs orders that were read. */
    private static final class Runner {
        // Where the numbers of the words "turn 0", "level 0", "flow 0" begin: as the parser gives them.
        private static final int TURN = 4;
        private static final int LEVEL = 8;
        private static final int FLOW = 11;

        private final Judge judge;
        private final Deeds deeds;
        private final Machine machine = new Machine();
        private final int[] words = new int[FLOW + FIELDS];
        int done = 0;
        private int latest = NONE;

        Runner(Judge judge, Deeds deeds) {
            this.judge = judge;
            this.deeds = deeds;
        }

        // The clause that can't be, NONE if all were run.
        int run(Night night, Past past, Text text) {
            done = 0;
            latest = NONE;
            for (int c = 0; c < text.clauses; c++) {
                int sumsAt = text.markOf(c, 0);
                int secondAt = text.markOf(c, 1);
                int testAt = text.markOf(c, 2);
                int behind = text.markOf(c, 3);
                for (int i = 0; i < text.times[c]; i++) {
                    findWords(night, text.words[c]);
                    if (testAt < behind && machine.work(text, testAt, behind, words) != 1) {
                        continue;
                    }
                    boolean hasSums = text.kinds[c] != PASS;
                    int a = hasSums ? machine.work(text, sumsAt, secondAt, words) : 0;
                    int b = hasSums ? machine.work(text, secondAt, testAt, words) : 0;
                    if (a == BROKEN || b == BROKEN) {
                        return c;
                    }
                    int answer = deeds.perform(night, past, text.kinds[c], a, b);
                    if (answer < 0) {
                        return c;
                    }
                    done++;
                    latest = text.kinds[c] == PASS ? answer : latest;
                }
            }
            return NONE;
        }

        // Only those that the clause names, as a flow is dear.
        private void findWords(Night night, int named) {
            words[0] = night.terms[HOUR];
            words[1] = done;
            words[2] = latest;
            words[3] = night.allLevels();
            for (int r = 0; r < RINGS; r++) {
                words[TURN + r] = night.turns[r];
            }
            for (int b = 0; b < MOST_BUCKETS; b++) {
                words[LEVEL + b] = night.hasBucket(b) ? night.levels[b] : NONE;
            }
            for (int f = 0; f < FIELDS; f++) {
                if ((named & (1 << (FLOW + f))) != 0) {
                    words[FLOW + f] = judge.threadsOn(night, f);
                }
            }
        }
    }

    /** What is worked out on paper: the night that is asked about stays as it is. */
    private static final class Paper {
        private static final int LONGEST_WAIT = 60;
        private static final int MOST_HOURS = 9;
        private static final int ALL_SETTINGS = 4096;
        // Where the shares of the last ring begin.
        private static final int LAST_RING = (RINGS - 1) * HOLES * FIELDS;
        private static final long WHOLE = 1000000000000L;

        private final Judge judge;
        private final Night sketch = new Night();
        // Threads of a ring at a turn on a field: at (ring * 8 + turn) * 8 + field.
        private final int[] shares = new int[RINGS * HOLES * FIELDS];
        // Threads in an hour on a field: at hour * 8 + field.
        private final int[] falls = new int[MOST_HOURS * FIELDS];
        // What a bucket catches on a field, NONE where it is barred: at bucket * 8 + field.
        private final int[] catches = new int[MOST_BUCKETS * FIELDS];
        // Settings that fit what was seen: at the turns of rings 0 .. 2, those of ring 3 as bits.
        private final int[] fitting = new int[ALL_SETTINGS / HOLES];
        private final int[] tally = new int[MOST_THREADS + 1];
        private final long[] chances = new long[20];
        // What the latest search found: how much, and which, as octal digits, a field or bits.
        int best = 0;
        int choice = 0;

        Paper(Judge judge) {
            this.judge = judge;
        }

        // The digit of the latest choice that has so many behind it.
        int digitOfChoice(int behind) {
            return within(behind, 0, 9) ? (choice >> (3 * behind)) & 7 : NONE;
        }

        int hoursUntil(Night night, int field, int v) {
            sketch.copyFrom(night);
            for (int hours = 0; hours <= LONGEST_WAIT; hours++) {
                if (judge.threadsOn(sketch, field) >= v) {
                    return hours;
                }
                sketch.turnAll(1);
            }
            return NONE;
        }

        int longestDrought(Night night, int field) {
            sketch.copyFrom(night);
            int longest = 0;
            int dry = 0;
            for (int hours = 0; hours < LONGEST_WAIT; hours++) {
                dry = judge.threadsOn(sketch, field) == 0 ? dry + 1 : 0;
                longest = Math.max(longest, dry);
                sketch.turnAll(1);
            }
            return longest;
        }

        boolean place(Night night, int hours) {
            findFalls(night, hours);
            for (int b = 0; b < night.bucketCount; b++) {
                for (int f = 0; f < FIELDS; f++) {
                    boolean barred = judge.isBarred(night, b, f);
                    catches[b * FIELDS + f] = barred ? NONE : catchOn(night, b, f, hours);
                }
            }
            best = NONE;
            int rows = 1 << (3 * night.bucketCount);
            for (int row = 0; row < rows; row++) {
                int caught = caughtByRow(night.bucketCount, row);
                if (caught > best) {
                    best = caught;
                    choice = row;
                }
            }
            return best != NONE;
        }

        private void findFalls(Night night, int hours) {
            sketch.copyFrom(night);
            for (int h = 0; h < hours && h < MOST_HOURS; h++) {
                for (int f = 0; f < FIELDS; f++) {
                    falls[h * FIELDS + f] = judge.threadsOn(sketch, f);
                }
                sketch.turnAll(1);
            }
        }

        private int catchOn(Night night, int bucket, int field, int hours) {
            sketch.copyFrom(night);
            sketch.fields[bucket] = field;
            int caught = 0;
            for (int h = 0; h < hours && h < MOST_HOURS; h++) {
                int room = sketch.sizes[bucket] - sketch.levels[bucket];
                int more = Math.min(room, falls[h * FIELDS + field]);
                caught += more;
                sketch.levels[bucket] += more;
                sketch.levels[bucket] = Math.max(0, sketch.levels[bucket] - judge.leakOf(sketch, bucket));
                sketch.turnAll(1);
            }
            return caught;
        }

        // NONE if a bucket is barred or two are on one field.
        private int caughtByRow(int buckets, int row) {
            int caught = 0;
            int taken = 0;
            for (int b = 0; b < buckets; b++) {
                int field = (row >> (3 * (buckets - 1 - b))) & 7;
                int more = catches[b * FIELDS + field];
                if (more == NONE || (taken & (1 << field)) != 0) {
                    return NONE;
                }
                taken |= 1 << field;
                caught += more;
            }
            return caught;
        }

        private void findShares(Night night) {
            sketch.copyFrom(night);
            for (int t = 0; t < HOLES; t++) {
                Arrays.fill(sketch.turns, t);
                for (int r = 0; r < RINGS; r++) {
                    for (int f = 0; f < FIELDS; f++) {
                        shares[(r * HOLES + t) * FIELDS + f] = judge.runsAbove(sketch, r, f);
                    }
                }
            }
        }

        // A setting has the turn of ring 0 as its highest octal digit, so rows of turns go up with it.
        private int threadsBy(int setting, int field) {
            return threadsByThree(setting >> 3, field) + shares[LAST_RING + (setting & 7) * FIELDS + field];
        }

        private int threadsByThree(int three, int field) {
            return shares[((three >> 6) & 7) * FIELDS + field]
                    + shares[(HOLES + ((three >> 3) & 7)) * FIELDS + field]
                    + shares[(2 * HOLES + (three & 7)) * FIELDS + field];
        }

        private boolean fitsSeen(Night night, int setting) {
            for (int i = 0; i < night.seenCount; i++) {
                if (threadsBy(setting, night.seenFields[i]) != night.seenThreads[i]) {
                    return false;
                }
            }
            return true;
        }

        // How many there are for NONE.
        int settingAt(Night night, int i) {
            findShares(night);
            int found = 0;
            for (int setting = 0; setting < ALL_SETTINGS; setting++) {
                if (fitsSeen(night, setting)) {
                    if (found == i) {
                        return asDecimal(setting);
                    }
                    found++;
                }
            }
            return i == NONE ? found : NONE;
        }

        private static int asDecimal(int setting) {
            return ((setting >> 9) & 7) * 1000 + ((setting >> 6) & 7) * 100 + ((setting >> 3) & 7) * 10 + (setting & 7);
        }

        boolean findLook(Night night) {
            if (!findFitting(night)) {
                return false;
            }
            best = ALL_SETTINGS + 1;
            for (int f = 0; f < FIELDS; f++) {
                int alike = mostAlike(f);
                if (alike < best) {
                    best = alike;
                    choice = f;
                }
            }
            return true;
        }

        private boolean findFitting(Night night) {
            findShares(night);
            boolean any = false;
            for (int three = 0; three < fitting.length; three++) {
                int bits = 0;
                for (int last = 0; last < HOLES; last++) {
                    bits |= fitsSeen(night, three * HOLES + last) ? 1 << last : 0;
                }
                fitting[three] = bits;
                any |= bits != 0;
            }
            return any;
        }

        private int mostAlike(int field) {
            Arrays.fill(tally, 0);
            int most = 0;
            for (int three = 0; three < fitting.length; three++) {
                if (fitting[three] == 0) {
                    continue;
                }
                int byThree = threadsByThree(three, field);
                for (int last = 0; last < HOLES; last++) {
                    int threads = byThree + shares[LAST_RING + last * FIELDS + field];
                    if ((fitting[three] & (1 << last)) != 0 && threads < tally.length) {
                        tally[threads]++;
                        most = Math.max(most, tally[threads]);
                    }
                }
            }
            return most;
        }

        boolean findTurns(Night night) {
            findShares(night);
            best = NONE;
            for (int setting = 0; setting < ALL_SETTINGS && best != 0; setting++) {
                if (givesWanted(night, setting)) {
                    int steps = stepsTo(night, setting);
                    if (best == NONE || steps < best) {
                        best = steps;
                        choice = setting;
                    }
                }
            }
            return best != NONE;
        }

        private static int stepsTo(Night night, int setting) {
            int steps = 0;
            for (int r = 0; r < RINGS; r++) {
                int up = Math.floorMod((setting >> (3 * (RINGS - 1 - r))) - night.turns[r], HOLES);
                steps += Math.min(up, HOLES - up);
            }
            return steps;
        }

        private boolean givesWanted(Night night, int setting) {
            for (int f = 0; f < FIELDS; f++) {
                if (night.wants[f] != NONE && threadsBy(setting, f) != night.wants[f]) {
                    return false;
                }
            }
            return true;
        }

        boolean findCleared(Night night, int field, int v) {
            int running = 0;
            int blockedRings = 0;
            for (int r = 0; r < RINGS; r++) {
                int hole = night.holeAbove(r, field);
                // The first four places serve for what the ring's hole would run.
                shares[r] = judge.runsOf(night, r, hole);
                if (night.blocked[r * HOLES + hole]) {
                    blockedRings |= 1 << r;
                } else {
                    running += shares[r];
                }
            }
            best = RINGS + 1;
            for (int rings = 0; rings < 1 << RINGS; rings++) {
                boolean allBlocked = (rings & ~blockedRings) == 0;
                if (allBlocked && Integer.bitCount(rings) < best && running + sharesOf(rings) >= v) {
                    best = Integer.bitCount(rings);
                    choice = rings;
                }
            }
            return best <= RINGS;
        }

        private int sharesOf(int rings) {
            int sum = 0;
            for (int r = 0; r < RINGS; r++) {
                sum += (rings & (1 << r)) != 0 ? shares[r] : 0;
            }
            return sum;
        }

        long chanceOfFew(int k, int n, int rust) {
            Arrays.fill(chances, 0);
            chances[0] = WHOLE;
            for (int hole = 0; hole < n; hole++) {
                // From the most down, so that each place is still as it was when the next takes of it.
                for (int did = chances.length - 1; did >= 0; did--) {
                    long more = did > 0 ? chances[did - 1] * rust / 10 : 0;
                    chances[did] = chances[did] * (10 - rust) / 10 + more;
                }
            }
            long sum = 0;
            for (int did = 0; did < k && did < chances.length; did++) {
                sum += chances[did];
            }
            return sum;
        }

        int worthBy(Night night, int law) {
            sketch.copyFrom(night);
            sketch.inForce = law;
            int sum = 0;
            for (int b = 0; b < sketch.bucketCount; b++) {
                sum += sketch.levels[b] * judge.payOf(sketch, b, sketch.fields[b]);
            }
            return sum;
        }
    }
}
