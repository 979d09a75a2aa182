/** Promises 1 to 12: each sentence that names a boundary has a test of its own, named after the promise. */
public final class EdgesOfNightTest {
    private static final int NONE = NightColander.NONE;
    private static final Trial t = new Trial("EdgesOfNightTest");

    public static void main(String[] args) throws ReflectiveOperationException {
        t.runNamed(EdgesOfNightTest.class, 1, 12);
        t.end();
    }

    // "NONE = -1"
    static void promise01None() {
        t.due("NONE", NightColander.NONE, -1);
    }

    // "A night without buckets."
    static void promise01NoBuckets() {
        NightColander x = new NightColander();
        t.due("buckets", x.count(0), 0);
        t.due("levels", x.count(1), 0);
        t.due("bucket 0", x.of(0, 0), NONE);
    }

    // "BORE 0 .. 9 (1 at first), BLOCKED or not (at first)"
    static void promise01HolesAtFirst() {
        NightColander x = new NightColander();
        for (int at = 0; at < 32; at++) {
            t.due("bore of " + at, x.hole(at / 8, at % 8, 0), 1);
            t.due("blocked " + at, x.hole(at / 8, at % 8, 1), 0);
        }
        t.due("blocked", x.count(2), 0);
    }

    // "a TURN 0 .. 7 (0 at first)"
    static void promise01TurnsAtFirst() {
        NightColander x = new NightColander();
        for (int r = 0; r < 4; r++) {
            t.due("ring " + r, x.turn(r, 5), 0);
        }
    }

    // "or any (NONE; any at first)"
    static void promise01WantedAtFirst() {
        NightColander x = new NightColander();
        for (int f = 0; f < 8; f++) {
            t.due("field " + f, x.wanted(f, 7), NONE);
        }
    }

    // "0 HOUR 0 .. 999 (0 at first), 1 WET 0 .. 9 (3), 2 MOOD 0 .. 9 (0), 3 RUST 0 .. 10 (1)"
    static void promise01TermsAtFirst() {
        NightColander x = new NightColander();
        int[] first = {0, 3, 0, 1};
        for (int what = 0; what < 4; what++) {
            t.due("count of term " + what, x.count(13 + what), first[what]);
            t.due("term " + what, x.terms(what, 2), first[what]);
        }
    }

    // "one is in FORCE (NONE at first: no CLAUSE)"
    static void promise01LawsAtFirst() {
        NightColander x = new NightColander();
        t.due("laws", x.count(4), 0);
        t.due("in force", x.count(12), NONE);
        t.due("runs", x.hole(3, 7, 3), 3);
        t.due("was in force", x.force(NONE), NONE);
    }

    static void promise01NothingElseAtFirst() {
        NightColander x = new NightColander();
        for (int what : new int[] {3, 5, 6, 7, 8, 9, 10, 11}) {
            t.due("count " + what, x.count(what), 0);
        }
        t.due("fault", x.fault(), NONE);
        t.due("stopped", x.stopped(), NONE);
        t.due("settings", x.settings(NONE), 4096);
    }

    static void promise01ObjectsAreTheirOwn() {
        NightColander x = Trial.withBuckets("runs 9", 50);
        x.turn(2, 3);
        x.block(1, 1);
        x.pass();
        x.turn(8, 8);
        t.same("another object", Trial.all(new NightColander()), Trial.all(new NightColander()));
        t.due("its rings", new NightColander().hole(2, 0, 2), 0);
        t.due("its refusals", new NightColander().count(7), 0);
    }

    // "RINGS 0 .. 3"
    static void promise02RingTooSmall() {
        t.due("ring -1", new NightColander().hole(-1, 0, 0), NONE);
        t.due("ring 0", new NightColander().hole(0, 0, 0), 1);
    }

    static void promise02RingTooLarge() {
        t.due("ring 4", new NightColander().hole(4, 0, 0), NONE);
        t.due("ring 3", new NightColander().hole(3, 0, 0), 1);
    }

    // "HOLES 0 .. 7 of each"
    static void promise02HoleTooSmall() {
        t.due("hole -1", new NightColander().hole(1, -1, 0), NONE);
        t.due("hole 0", new NightColander().hole(1, 0, 0), 1);
    }

    static void promise02HoleTooLarge() {
        t.due("hole 8", new NightColander().hole(1, 8, 0), NONE);
        t.due("hole 7", new NightColander().hole(1, 7, 0), 1);
    }

    static void promise02WhatTooSmall() {
        t.due("what -1", new NightColander().hole(0, 0, -1), NONE);
    }

    static void promise02WhatTooLarge() {
        t.due("what 4", new NightColander().hole(0, 0, 4), NONE);
        t.due("what 3", new NightColander().hole(0, 0, 3), 3);
    }

    static void promise02FarNumbers() {
        NightColander x = new NightColander();
        for (int far : Trial.FAR) {
            t.due("ring " + far, x.hole(far, 0, 0), NONE);
            t.due("hole " + far, x.hole(0, far, 0), NONE);
            t.due("what " + far, x.hole(0, 0, far), NONE);
        }
        t.due("is not refused", x.count(7) + x.status(), 0);
    }

    // "its HOLE h is above the FIELD (h and TURN) modulo 8"
    static void promise02FieldWrapsRound() {
        NightColander x = new NightColander();
        x.turn(1, 1);
        x.turn(2, 7);
        t.due("6 and 1", x.hole(1, 6, 2), 7);
        t.due("7 and 1", x.hole(1, 7, 2), 0);
        t.due("0 and 7", x.hole(2, 0, 2), 7);
        t.due("1 and 7", x.hole(2, 1, 2), 0);
        t.due("7 and 7", x.hole(2, 7, 2), 6);
        t.due("7 and 0", x.hole(3, 7, 2), 7);
    }

    // "how it RUNS now (3; 0 if BLOCKED)"
    static void promise02BlockedRunsNothing() {
        NightColander x = Trial.under("runs 50");
        x.block(2, 2);
        t.due("blocked", x.hole(2, 2, 3), 0);
        x.block(2, 2);
        t.due("no more", x.hole(2, 2, 3), 50);
    }

    // "RUNS 0 .. 99 THREADS an HOUR as the last "runs" that HOLDS tells (else the nearest)"
    static void promise02RunsTheNearest() {
        t.due("100", Trial.under("runs 100").hole(0, 0, 3), 99);
        t.due("99", Trial.under("runs 99").hole(0, 0, 3), 99);
        t.due("1000000000", Trial.under("runs 1000*1000*1000").hole(0, 0, 3), 99);
        t.due("0", Trial.under("runs 0").hole(0, 0, 3), 0);
        t.due("-1", Trial.under("runs 0-1").hole(0, 0, 3), 0);
        t.due("-1000000000", Trial.under("runs 0-1000*1000*1000").hole(0, 0, 3), 0);
    }

    // "without BORE times WET"
    static void promise02RunsWithoutALaw() {
        NightColander x = new NightColander();
        Trial.feed(x, 0, 0, 0, 0, 1, 9);
        x.row();
        x.terms(1, 9);
        t.due("0 times 9", x.hole(0, 0, 3), 0);
        t.due("9 times 9", x.hole(0, 1, 3), 81);
        x.terms(1, 0);
        t.due("9 times 0", x.hole(0, 1, 3), 0);
    }

    // "-1."
    static void promise03RingTooSmall() {
        t.due("ring -1", new NightColander().turn(-1, 1), -1);
        t.due("ring 0", new NightColander().turn(0, 1), 0);
    }

    static void promise03RingTooLarge() {
        t.due("ring 4", new NightColander().turn(4, 1), -1);
        t.due("ring 3", new NightColander().turn(3, 1), 0);
    }

    // "becomes t 0 .. 7"
    static void promise03TurnTooSmall() {
        NightColander x = new NightColander();
        x.turn(2, 4);
        t.due("t -1", x.turn(2, -1), -1);
        t.due("t 0", x.turn(2, 0), 4);
        t.due("field", x.hole(2, 0, 2), 0);
    }

    static void promise03TurnTooLarge() {
        NightColander x = new NightColander();
        x.turn(2, 4);
        t.due("t 8", x.turn(2, 8), -1);
        t.due("t 7", x.turn(2, 7), 4);
        t.due("field", x.hole(2, 0, 2), 7);
    }

    static void promise03RefusedLeavesAll() {
        NightColander x = new NightColander();
        x.turn(1, 6);
        x.block(0, 0);
        String ahead = Trial.all(x);
        x.turn(1, 8);
        x.turn(1, -1);
        x.turn(4, 1);
        for (int far : Trial.FAR) {
            t.due("ring " + far, x.turn(far, 1), -1);
            t.due("t " + far, x.turn(1, far), -1);
        }
        t.same("refused", Trial.all(x), ahead);
        t.due("refused by -1", x.count(7), 3 + 2 * Trial.FAR.length);
        t.due("status", x.status(), -1);
    }

    // "SIZE 1 .. 99"
    static void promise04SizeTooSmall() {
        t.due("size 0", new NightColander().bucket(0, 3), -1);
        t.due("size -1", new NightColander().bucket(-1, 3), -1);
        NightColander x = new NightColander();
        t.due("size 1", x.bucket(1, 3), 0);
        t.due("its size", x.of(0, 0), 1);
    }

    static void promise04SizeTooLarge() {
        t.due("size 100", new NightColander().bucket(100, 3), -1);
        NightColander x = new NightColander();
        t.due("size 99", x.bucket(99, 3), 0);
        t.due("its size", x.of(0, 0), 99);
    }

    // "FIELDS 0 .. 7"
    static void promise04FieldTooSmall() {
        t.due("field -1", new NightColander().bucket(5, -1), -1);
        NightColander x = new NightColander();
        t.due("field 0", x.bucket(5, 0), 0);
        t.due("its field", x.of(0, 2), 0);
    }

    static void promise04FieldTooLarge() {
        t.due("field 8", new NightColander().bucket(5, 8), -1);
        NightColander x = new NightColander();
        t.due("field 7", x.bucket(5, 7), 0);
        t.due("its field", x.of(0, 2), 7);
    }

    // "LEVEL (0 at first)"
    static void promise04LevelAtFirst() {
        NightColander x = new NightColander();
        x.image(0);
        x.bucket(50, 0);
        x.pass();
        x.back(0);
        t.due("anew", x.bucket(50, 0), 0);
        t.due("level", x.of(0, 1), 0);
    }

    // "-3 another one is at that FIELD"
    static void promise04FieldIsTaken() {
        NightColander x = Trial.withBuckets("", 9, 9);
        t.due("another's", x.bucket(9, 0), -3);
        t.due("another's", x.bucket(9, 1), -3);
        x.set(0, 4);
        t.due("another's now", x.bucket(9, 4), -3);
        t.due("free again", x.bucket(9, 0), 2);
    }

    // "BUCKETS 0 .. 2 (3 at most)", "-5."
    static void promise04Full() {
        NightColander x = Trial.withBuckets("", 9, 9);
        t.due("the third", x.bucket(9, 2), 2);
        t.due("the fourth", x.bucket(9, 3), -5);
        t.due("status", x.status(), -5);
        t.due("how many", x.count(0), 3);
        t.due("refused by -5", x.count(10), 1);
    }

    // "The first of these in that order."
    static void promise04FirstRefusal() {
        NightColander x = Trial.withBuckets("", 9, 9, 9);
        t.due("-1 ahead of -3", x.bucket(0, 0), -1);
        t.due("-3 ahead of -5", x.bucket(9, 0), -3);
        t.due("-1 ahead of -5", x.bucket(100, 5), -1);
        t.due("-1 ahead of -5", x.bucket(9, 8), -1);
    }

    static void promise04RefusedLeavesAll() {
        NightColander x = Trial.withBuckets("", 9, 9);
        x.block(0, 0);
        String ahead = Trial.all(x);
        x.bucket(0, 5);
        x.bucket(9, 0);
        for (int far : Trial.FAR) {
            t.due("size " + far, x.bucket(far, 5), -1);
            t.due("field " + far, x.bucket(9, far), -1);
        }
        t.same("refused", Trial.all(x), ahead);
    }

    // "NONE." of a bucket that is not there
    static void promise05NoSuchBucket() {
        NightColander x = new NightColander();
        t.due("none at all", x.of(0, 0), NONE);
        x.bucket(9, 5);
        t.due("bucket 0", x.of(0, 0), 9);
        t.due("bucket -1", x.of(-1, 0), NONE);
        t.due("bucket 1", x.of(1, 0), NONE);
        x.bucket(8, 4);
        x.bucket(7, 3);
        t.due("bucket 2", x.of(2, 0), 7);
        t.due("bucket 3", x.of(3, 0), NONE);
        for (int far : Trial.FAR) {
            t.due("bucket " + far, x.of(far, 0), NONE);
        }
    }

    static void promise05WhatTooSmall() {
        t.due("what -1", Trial.withBuckets("", 9).of(0, -1), NONE);
    }

    // "whether BARRED from FIELD f (5 + f: 1, 0)"
    static void promise05WhatTooLarge() {
        NightColander x = Trial.withBuckets("bars", 9);
        t.due("what 12, field 7", x.of(0, 12), 1);
        t.due("what 13", x.of(0, 13), NONE);
        for (int far : Trial.FAR) {
            t.due("what " + far, x.of(0, far), NONE);
        }
    }

    static void promise05BarredFirstAndLastField() {
        NightColander x = Trial.withBuckets("bars if field=0 or field=7", 9);
        t.due("field 0", x.of(0, 5), 1);
        t.due("field 1", x.of(0, 6), 0);
        t.due("field 6", x.of(0, 11), 0);
        t.due("field 7", x.of(0, 12), 1);
    }

    // "a BUCKET LEAKS 0 .. 9 an HOUR, 0 without"
    static void promise05LeaksTheNearest() {
        t.due("without a law", Trial.withBuckets("", 9).of(0, 3), 0);
        t.due("without a clause", Trial.withBuckets("pays 5", 9).of(0, 3), 0);
        t.due("9", Trial.withBuckets("leaks 9", 9).of(0, 3), 9);
        t.due("10", Trial.withBuckets("leaks 10", 9).of(0, 3), 9);
        t.due("-1", Trial.withBuckets("leaks 0-1", 9).of(0, 3), 0);
    }

    // "a THREAD in a BUCKET is PAID 0 .. 99 at a FIELD, 1 without"
    static void promise05PaidTheNearest() {
        t.due("without a law", Trial.withBuckets("", 9).of(0, 4), 1);
        t.due("without a clause", Trial.withBuckets("leaks 5", 9).of(0, 4), 1);
        t.due("0", Trial.withBuckets("pays 0", 9).of(0, 4), 0);
        t.due("99", Trial.withBuckets("pays 99", 9).of(0, 4), 99);
        t.due("100", Trial.withBuckets("pays 100", 9).of(0, 4), 99);
        t.due("-1", Trial.withBuckets("pays 0-1", 9).of(0, 4), 0);
    }

    // "it is BARRED from a FIELD, if "bars" HOLDS"
    static void promise05BarredWithoutAClause() {
        t.due("without a law", Trial.withBuckets("", 9).of(0, 5), 0);
        t.due("without a clause", Trial.withBuckets("leaks 5", 9).of(0, 5), 0);
        t.due("broken", Trial.withBuckets("bars if 1/0=1", 9).of(0, 5), 0);
        t.due("one of two", Trial.withBuckets("bars if 1=1;bars if 1=2", 9).of(0, 5), 1);
    }

    static void promise05LevelAtSize() {
        NightColander x = Trial.withBuckets("", 5);
        x.pass();
        t.due("level", x.of(0, 1), 5);
        x.pass();
        t.due("full", x.of(0, 1), 5);
    }

    static void promise06FieldTooSmall() {
        t.due("field -1", new NightColander().wanted(-1, 5), -1);
        NightColander x = new NightColander();
        x.wanted(0, 5);
        t.due("field 0", x.wanted(0, 6), 5);
    }

    static void promise06FieldTooLarge() {
        t.due("field 8", new NightColander().wanted(8, 5), -1);
        NightColander x = new NightColander();
        x.wanted(7, 5);
        t.due("field 7", x.wanted(7, 6), 5);
    }

    // "WANTED of each FIELD 0 .. 400 THREADS, or any (NONE ..)"
    static void promise06ThreadsTooFew() {
        NightColander x = new NightColander();
        x.wanted(3, 9);
        t.due("-2", x.wanted(3, -2), -1);
        t.due("status", x.status(), -1);
        t.due("0", x.wanted(3, 0), 9);
        t.due("was 0", x.wanted(3, NONE), 0);
        t.due("any is not refused", x.status(), 0);
        t.due("was any", x.wanted(3, 1), NONE);
        t.due("was any, which is no refusal", x.status(), 0);
    }

    static void promise06ThreadsTooMany() {
        NightColander x = new NightColander();
        t.due("400", x.wanted(3, 400), NONE);
        t.due("401", x.wanted(3, 401), -1);
        t.due("was 400", x.wanted(3, 0), 400);
    }

    static void promise06RefusedLeavesAll() {
        NightColander x = new NightColander();
        x.wanted(0, 12);
        for (int far : Trial.FAR) {
            t.due("field " + far, x.wanted(far, 0), -1);
            t.due("threads " + far, x.wanted(0, far), -1);
        }
        t.due("as it was", x.wanted(0, NONE), 12);
        t.due("refused by -1", x.count(7), 2 * Trial.FAR.length);
    }

    static void promise07FieldTooSmall() {
        t.due("field -1", new NightColander().flow(-1), NONE);
        t.due("field 0", new NightColander().flow(0), 12);
    }

    static void promise07FieldTooLarge() {
        NightColander x = new NightColander();
        t.due("field 8", x.flow(8), NONE);
        t.due("field 7", x.flow(7), 12);
        for (int far : Trial.FAR) {
            t.due("field " + far, x.flow(far), NONE);
        }
        t.due("is not refused", x.count(7) + x.status(), 0);
    }

    static void promise07AllBlocked() {
        NightColander x = new NightColander();
        for (int r = 0; r < 4; r++) {
            x.block(6, r);
        }
        t.due("field 6", x.flow(6), 0);
        t.due("field 5", x.flow(5), 12);
    }

    static void promise07Most() {
        t.due("four times 99", Trial.under("runs 1000").flow(0), 396);
    }

    static void promise07FieldsWrapRound() {
        NightColander x = new NightColander();
        x.turn(3, 7);
        x.ream(0, 3);
        x.turn(2, 1);
        x.block(7, 2);
        t.due("0 of ring 3 is above 7", x.flow(7), 15);
        t.due("7 of ring 2 is above 0", x.flow(0), 9);
    }

    // "0 HOUR 0 .. 999"
    static void promise08Hour() {
        term(0, 999);
    }

    // "1 WET 0 .. 9"
    static void promise08Wet() {
        term(1, 9);
    }

    // "2 MOOD 0 .. 9"
    static void promise08Mood() {
        term(2, 9);
    }

    // "3 RUST 0 .. 10"
    static void promise08Rust() {
        term(3, 10);
    }

    private static void term(int what, int most) {
        NightColander x = new NightColander();
        x.terms(what, 5);
        t.due("-1", x.terms(what, -1), -1);
        t.due("too much", x.terms(what, most + 1), -1);
        t.due("as it was", x.count(13 + what), 5);
        t.due("the most", x.terms(what, most), 5);
        t.due("is the most", x.count(13 + what), most);
        t.due("0", x.terms(what, 0), most);
        t.due("is 0", x.count(13 + what), 0);
        t.due("refused by -1", x.count(7), 2);
    }

    static void promise08WhatTooSmall() {
        t.due("what -1", new NightColander().terms(-1, 0), -1);
    }

    static void promise08WhatTooLarge() {
        t.due("what 4", new NightColander().terms(4, 0), -1);
    }

    static void promise08RefusedLeavesAll() {
        NightColander x = new NightColander();
        x.block(1, 1);
        String ahead = Trial.all(x);
        for (int far : Trial.FAR) {
            t.due("what " + far, x.terms(far, 1), -1);
            t.due("value " + far, x.terms(0, far), -1);
        }
        t.same("refused", Trial.all(x), ahead);
    }

    // "TEXTS are on a TAPE of at most 400 bytes.", "NONE, if there would be more than 400."
    static void promise09Full() {
        NightColander x = new NightColander();
        for (int i = 1; i <= 20; i++) {
            t.due("fed", x.feed(i, i, i, i, i), 20 * i);
        }
        t.due("one more", x.feed(0, 0, 0, 0, 0), NONE);
        t.due("bytes", x.count(6), 400);
    }

    static void promise09OneByteTooMany() {
        NightColander x = full();
        x.end(381);
        t.due("to 401", x.feed(0, 0, 0, 0, 0), NONE);
        t.due("bytes", x.count(6), 381);
        x.end(380);
        t.due("to 400", x.feed(0, 0, 0, 0, 0), 400);
    }

    private static NightColander full() {
        NightColander x = new NightColander();
        for (int i = 0; i < 20; i++) {
            x.feed(0, 0, 0, 0, 0);
        }
        return x;
    }

    static void promise09WhatIsTooMuchIsNotFed() {
        NightColander x = new NightColander();
        Trial.feed(x, " ".repeat(385) + "bars if 1=1xxx");
        x.end(396);
        t.due("not fed", x.feed(0x78787878, 0x78787878, 0x78787878, 0x78787878, 0x78787878), NONE);
        t.due("not written over", x.law(), 0);
    }

    // "four of each number, the highest first"
    static void promise09HighestByteFirst() {
        NightColander x = new NightColander();
        x.feed(0x00000203, 0x07090102, 0x03020405, 0x00070800, 0x06070303);
        x.end(18);
        t.due("told", x.row(), 6);
        t.due("(0, 0)", x.hole(0, 0, 0), 2);
        t.due("(3, 7)", x.hole(3, 7, 0), 9);
        t.due("(1, 2)", x.hole(1, 2, 0), 3);
        t.due("(2, 4)", x.hole(2, 4, 0), 5);
        t.due("(0, 7)", x.hole(0, 7, 0), 8);
        t.due("(0, 6)", x.hole(0, 6, 0), 7);
    }

    static void promise09NumbersBelowZero() {
        NightColander x = new NightColander();
        // The bytes 255, 255, 255 are a pea, 1, 2, 6 a hole.
        x.feed(0xFFFFFF01, 0x0206FFFF, -1, -1, Integer.MIN_VALUE);
        x.end(6);
        t.due("told", x.row(), 1);
        t.due("peas", x.peas(), 1);
        t.due("bore", x.hole(1, 2, 0), 6);
    }

    static void promise09NoneIsNoRefusal() {
        NightColander x = full();
        x.turn(9, 9);
        x.feed(0, 0, 0, 0, 0);
        t.due("status", x.status(), -1);
        t.due("refused by -1", x.count(7), 1);
        t.due("refused by -5", x.count(10), 0);
    }

    // "NONE, if it has not so many"
    static void promise10TooMany() {
        NightColander x = new NightColander();
        t.due("1 of an empty one", x.end(1), NONE);
        x.feed(0, 0, 0, 0, 0);
        t.due("21 of 20", x.end(21), NONE);
        t.due("20 of 20", x.end(20), 20);
        t.due("401", x.end(401), NONE);
        x.end(19);
        t.due("20 of 19", x.end(20), NONE);
        t.due("bytes", x.count(6), 19);
    }

    // "or n is below 0"
    static void promise10BelowZero() {
        NightColander x = new NightColander();
        x.feed(0, 0, 0, 0, 0);
        t.due("-1", x.end(-1), NONE);
        for (int far : Trial.FAR) {
            t.due("far " + far, x.end(far), NONE);
        }
        t.due("bytes", x.count(6), 20);
        t.due("is not refused", x.count(7) + x.status(), 0);
    }

    static void promise10Nothing() {
        NightColander x = new NightColander();
        t.due("0 of an empty one", x.end(0), 0);
        x.feed(0, 0, 0, 0, 0);
        t.due("0 of 20", x.end(0), 0);
        t.due("bytes", x.count(6), 0);
        t.due("empty", x.row(), -6);
    }

    static void promise10FirstBytesAlone() {
        NightColander x = new NightColander();
        Trial.feed(x, "bars if 1=2;pass");
        x.end(11);
        t.due("the first 11", x.law(), 0);
        Trial.feed(x, "bars if 1=2;pass");
        x.end(8);
        Trial.feed(x, "3=3");
        t.due("others behind the first 8", x.law(), 1);
        Trial.feed(x, "runs 12");
        x.end(6);
        x.force(x.law());
        t.due("a number that is cut", x.hole(0, 0, 3), 1);
        Trial.feed(x, "barsx");
        x.end(4);
        t.due("a word that is cut", x.law(), 3);
    }

    // "-6 the TAPE is empty."
    static void promise11Empty() {
        NightColander x = new NightColander();
        x.block(3, 3);
        String ahead = Trial.all(x);
        t.due("row", x.row(), -6);
        t.due("status", x.status(), -6);
        t.due("refused by -6", x.count(11), 1);
        t.same("refused", Trial.all(x), ahead);
    }

    // "the TAPE is empty then"
    static void promise11TapeIsEmptyThen() {
        NightColander x = full();
        x.row();
        t.due("bytes", x.count(6), 0);
        t.due("again", x.row(), -6);
    }

    static void promise11FullTape() {
        NightColander x = new NightColander();
        int[] bytes = new int[400];
        for (int i = 0; i < 400; i++) {
            bytes[i] = i % 3 == 0 ? 3 : i % 3 == 1 ? 7 : i / 3 % 10;
        }
        Trial.feed(x, bytes);
        t.due("told", x.row(), 133);
        t.due("peas", x.peas(), 1);
        t.due("the last one's bore", x.hole(3, 7, 0), 2);
    }

    // "one that can't be .. is a PEA: nothing"
    static void promise11RingTooLarge() {
        told(4, 0, 5, 0, "ring 4");
        told(255, 0, 5, 0, "ring 255");
        told(128, 0, 5, 0, "ring 128");
        told(3, 0, 5, 1, "ring 3");
    }

    static void promise11HoleTooLarge() {
        told(0, 8, 5, 0, "hole 8");
        told(0, 255, 5, 0, "hole 255");
        told(0, 7, 5, 1, "hole 7");
    }

    // "BORE 0 .. 9"
    static void promise11BoreTooLarge() {
        told(0, 0, 10, 0, "bore 10");
        told(0, 0, 255, 0, "bore 255");
        told(0, 0, 9, 1, "bore 9");
    }

    static void promise11BoreZero() {
        told(2, 2, 0, 1, "bore 0");
    }

    private static void told(int ring, int hole, int bore, int due, String what) {
        NightColander x = new NightColander();
        String ahead = Trial.all(x);
        Trial.feed(x, ring, hole, bore);
        t.due(what, x.row(), due);
        t.due(what + " peas", x.peas(), 1 - due);
        t.due(what + " status", x.status(), 0);
        if (due == 1) {
            t.due(what + " has it", x.hole(ring, hole, 0), bore);
        } else {
            t.same(what, Trial.all(x).replace("peas 1", "peas 0"), ahead);
        }
    }

    // "one within which the TAPE ends is a PEA"
    static void promise11TapeEndsWithin() {
        NightColander x = new NightColander();
        Trial.feed(x, 1, 1, 5, 1, 1);
        t.due("two bytes", x.row(), 1);
        t.due("two bytes, a pea", x.peas(), 1);
        Trial.feed(x, 1, 1, 6, 1);
        t.due("one byte", x.row(), 1);
        t.due("one byte, a pea", x.peas(), 1);
        Trial.feed(x, 1, 1, 7);
        t.due("none", x.row(), 1);
        t.due("none, no pea", x.peas(), 0);
        Trial.feed(x, 1);
        t.due("one byte alone", x.row(), 0);
        Trial.feed(x, 1, 1);
        t.due("two bytes alone", x.row(), 0);
        t.due("bore", x.hole(1, 1, 0), 7);
    }

    // What is behind the end has been on the tape, but is no part of the row.
    static void promise11NothingOfWhatWasCut() {
        NightColander x = new NightColander();
        Trial.feed(x, 1, 1, 5);
        x.end(2);
        t.due("told", x.row(), 0);
        t.due("bore", x.hole(1, 1, 0), 1);
    }

    // "it has that, not BLOCKED"
    static void promise11NoLongerBlocked() {
        NightColander x = new NightColander();
        x.block(0, 0);
        x.block(1, 0);
        Trial.feed(x, 0, 0, 1, 0, 1, 10);
        t.due("told", x.row(), 1);
        t.due("not blocked", x.hole(0, 0, 1), 0);
        t.due("still blocked by a pea", x.hole(0, 1, 1), 1);
    }

    // "(0 ahead of any)"
    static void promise12AheadOfAny() {
        NightColander x = new NightColander();
        t.due("new", x.peas(), 0);
        x.row();
        t.due("behind a refused one", x.peas(), 0);
    }

    // "the latest row() .. that was not REFUSED"
    static void promise12RefusedOneLeavesIt() {
        NightColander x = new NightColander();
        Trial.feed(x, 9, 9, 9, 9, 9, 9);
        x.row();
        t.due("two", x.peas(), 2);
        x.row();
        t.due("still two", x.peas(), 2);
    }

    static void promise12LatestAlone() {
        NightColander x = new NightColander();
        Trial.feed(x, 9, 9, 9, 9);
        x.row();
        Trial.feed(x, 0, 0, 1);
        x.row();
        t.due("none", x.peas(), 0);
    }

    static void promise12All() {
        NightColander x = new NightColander();
        Trial.feed(x, new int[400]);
        x.row();
        t.due("the end's alone", x.peas(), 1);
        int[] nines = new int[400];
        java.util.Arrays.fill(nines, 9);
        Trial.feed(x, nines);
        t.due("none told", x.row(), 0);
        t.due("all", x.peas(), 134);
    }
}
