/** Promises 23 to 38: each sentence that names a boundary has a test of its own, named after the promise. */
public final class EdgesOnPaperTest {
    private static final int NONE = NightColander.NONE;
    private static final long WHOLE = 1000000000000L;
    private static final Trial t = new Trial("EdgesOnPaperTest");

    public static void main(String[] args) throws ReflectiveOperationException {
        t.runNamed(EdgesOnPaperTest.class, 23, 38);
        t.end();
    }

    private static NightColander at(int hour, String law) {
        NightColander x = Trial.under(law);
        x.terms(0, hour);
        return x;
    }

    static void promise23FieldTooSmall() {
        t.due("field -1", new NightColander().when(-1, 0), NONE);
        t.due("field 0", new NightColander().when(0, 0), 0);
    }

    static void promise23FieldTooLarge() {
        t.due("field 8", new NightColander().when(8, 0), NONE);
        t.due("field 7", new NightColander().when(7, 0), 0);
    }

    // "v 0 .. 400 THREADS or more"
    static void promise23TooFewThreads() {
        t.due("v -1", new NightColander().when(0, -1), NONE);
        t.due("v 0", Trial.under("runs 0").when(0, 0), 0);
    }

    static void promise23TooManyThreads() {
        NightColander x = Trial.under("runs 99");
        t.due("v 396", x.when(0, 396), 0);
        t.due("v 397", x.when(0, 397), NONE);
        t.due("v 400", x.when(0, 400), NONE);
        t.due("v 401", x.when(0, 401), NONE);
        for (int far : Trial.FAR) {
            t.due("v " + far, x.when(0, far), NONE);
            t.due("field " + far, x.when(far, 0), NONE);
        }
        t.due("is not refused", x.count(7) + x.status(), 0);
    }

    // "v THREADS or more"
    static void promise23OrMore() {
        t.due("12 of 12", new NightColander().when(0, 12), 0);
        t.due("11 of 12", new NightColander().when(0, 11), 0);
        t.due("13 of 12", new NightColander().when(0, 13), NONE);
    }

    // "in how many HOURS 0 .. 60", "(not in 60 ..)"
    static void promise23NotInSixty() {
        NightColander x = Trial.under("runs 0;runs 1 if hour=60");
        t.due("in 60", x.when(0, 4), 60);
        x.terms(0, 1);
        t.due("in 59", x.when(0, 4), 59);
        t.due("in 61", Trial.under("runs 0;runs 1 if hour=61").when(0, 4), NONE);
        t.due("now", Trial.under("runs 0;runs 1 if hour=0").when(0, 4), 0);
        x.terms(0, 61);
        t.due("gone by", x.when(0, 4), NONE);
    }

    // "(beyond HOUR 999, too)"
    static void promise23BeyondTheLastHour() {
        t.due("hour 1000", at(999, "runs 0;runs 1 if hour=1000").when(0, 1), 1);
        t.due("hour 1060", at(999, "runs 0;runs 1 if hour=1000+60").when(0, 1), NONE);
        NightColander x = at(999, "runs 0;runs 1 if hour=1000+59");
        t.due("hour 1059", x.when(0, 1), 60);
        t.due("on paper", x.count(13), 999);
    }

    static void promise23RingsWrapRound() {
        NightColander x = Trial.under("runs 0;runs 1 if ring=0 and hole=7");
        t.due("from 7 to 7", x.when(7, 1), 0);
        t.due("from 7 to 0", x.when(0, 1), 1);
        t.due("from 7 to 6", x.when(6, 1), 7);
        NightColander y = Trial.under("runs 0;runs 1 if ring=3 and hole=7");
        t.due("by fours", y.when(3, 1), 1);
        t.due("never", y.when(4, 1), NONE);
    }

    // "PLACED for n HOURS 1 .. 9"
    static void promise24HoursTooFew() {
        NightColander x = Trial.withBuckets("", 99);
        t.due("n 0", x.placed(0, 0), NONE);
        t.due("n 1", x.placed(1, 0), 12);
    }

    static void promise24HoursTooMany() {
        NightColander x = Trial.withBuckets("runs 2", 99);
        t.due("n 9", x.placed(9, 0), 72);
        t.due("n 10", x.placed(10, 0), NONE);
        t.due("n 1 behind n 9", x.placed(1, 0), 8);
        t.due("n 2 behind n 9", x.placed(2, 0), 16);
        for (int far : Trial.FAR) {
            t.due("n " + far, x.placed(far, 0), NONE);
        }
        t.due("is not refused", x.count(7) + x.status(), 0);
    }

    // "the FIELD of BUCKET b (1 + b)"
    static void promise24WhatTooSmall() {
        t.due("what -1", Trial.withBuckets("", 9).placed(1, -1), NONE);
    }

    static void promise24WhatTooLarge() {
        NightColander x = Trial.withBuckets("", 9, 9);
        t.due("what 2", x.placed(1, 2), 1);
        t.due("what 3", x.placed(1, 3), NONE);
        x.bucket(9, 7);
        t.due("what 3 then", x.placed(1, 3), 2);
        t.due("what 4", x.placed(1, 4), NONE);
        for (int far : Trial.FAR) {
            t.due("what " + far, x.placed(1, far), NONE);
        }
    }

    static void promise24WithoutBuckets() {
        NightColander x = new NightColander();
        t.due("caught", x.placed(9, 0), 0);
        t.due("bucket 0", x.placed(9, 1), NONE);
    }

    // "unlike ones"
    static void promise24UnlikeFields() {
        NightColander x = Trial.withBuckets("runs 0;runs 9 if field=5;runs 1 if field=6", 99, 99);
        t.due("caught", x.placed(1, 0), 40);
        t.due("bucket 0", x.placed(1, 1), 5);
        t.due("bucket 1", x.placed(1, 2), 6);
    }

    // "not BARRED (.. their own, too)"
    static void promise24BarredFromItsOwn() {
        NightColander x = new NightColander();
        x.bucket(99, 3);
        x.force(Trial.law(x, "runs 0;runs 9 if field=3;runs 2 if field=5;bars if field=3"));
        t.due("not its own", x.placed(1, 1), 5);
        t.due("caught", x.placed(1, 0), 8);
    }

    static void promise24ItsOwnCanBe() {
        NightColander x = new NightColander();
        x.bucket(99, 3);
        x.force(Trial.law(x, "runs 0;runs 9 if field=3"));
        t.due("its own", x.placed(1, 1), 3);
        NightColander y = Trial.withBuckets("runs 0;runs 9 if field=1", 99, 9);
        t.due("another's", y.placed(1, 1), 1);
        t.due("caught", y.placed(1, 0), 36);
    }

    // "(it can't be)"
    static void promise24BarredFromAll() {
        NightColander x = Trial.withBuckets("bars if bucket=1", 9, 9);
        t.due("caught", x.placed(1, 0), NONE);
        t.due("bucket 0", x.placed(1, 1), NONE);
        t.due("bucket 1", x.placed(1, 2), NONE);
    }

    static void promise24OneFieldForTwo() {
        NightColander x = Trial.withBuckets("bars if not field=7", 9, 9);
        t.due("two", x.placed(1, 0), NONE);
        NightColander y = Trial.withBuckets("bars if not field=7", 9);
        t.due("one", y.placed(1, 1), 7);
    }

    // "not BARRED (as now ..)"
    static void promise24BarredAsNow() {
        NightColander x = Trial.withBuckets("runs 0;runs 9 if field=2;bars if field=2 and hour=1", 99);
        t.due("later is no matter", x.placed(3, 1), 2);
        x.pass();
        t.due("now", x.placed(3, 1), 0);
        NightColander y = Trial.withBuckets("runs 0;runs 8 if field=2;bars if field=2 and level>0", 99);
        t.due("its level then is no matter", y.placed(3, 0), 96);
    }

    // "the first as a row of FIELDS by BUCKETS"
    static void promise24FirstRow() {
        NightColander x = Trial.withBuckets("runs 0", 9, 9, 9);
        x.set(0, 7);
        for (int b = 0; b < 3; b++) {
            t.due("bucket " + b, x.placed(9, 1 + b), b);
        }
        t.due("caught", x.placed(9, 0), 0);
    }

    // "CATCH most together": as far as they have room, leaks between the hours.
    static void promise24RoomAndLeaks() {
        t.due("room", Trial.withBuckets("", 13).placed(2, 0), 13);
        t.due("leaks", Trial.withBuckets("leaks 9", 13).placed(2, 0), 22);
        NightColander x = Trial.withBuckets("leaks 9 if field=4", 13);
        t.due("where it leaks", x.placed(2, 1), 4);
        NightColander y = Trial.withBuckets("", 13);
        y.pass();
        t.due("room that is left", y.placed(9, 0), 1);
        NightColander z = Trial.withBuckets("leaks 9;runs 1", 3);
        t.due("0 at least", z.placed(9, 0), 27);
    }

    // An hour on paper is as one that passes: leaks are asked of the hour then.
    static void promise24LeaksByTheHourThen() {
        t.due("in the first", Trial.withBuckets("leaks 9 if hour=0", 12).placed(3, 0), 21);
        t.due("in the second", Trial.withBuckets("leaks 9 if hour=1", 12).placed(3, 0), 21);
        t.due("in the third", Trial.withBuckets("leaks 9 if hour=2", 12).placed(3, 0), 12);
    }

    // Nothing is done, and hours on paper do not end at 999 (as NOTES.md says).
    static void promise24BeyondTheLastHour() {
        NightColander x = at(999, "runs hour-990");
        x.bucket(99, 0);
        t.due("9 and 10 four times", x.placed(2, 0), 76);
        t.due("on paper", x.count(13), 999);
        t.due("on paper", x.of(0, 1), 0);
    }

    static void promise25FieldTooSmall() {
        t.due("field -1", new NightColander().seen(-1, 5), -1);
        t.due("field 0", new NightColander().seen(0, 5), 1);
    }

    static void promise25FieldTooLarge() {
        t.due("field 8", new NightColander().seen(8, 5), -1);
        t.due("field 7", new NightColander().seen(7, 5), 1);
    }

    // "a FIELD has 0 .. 400 THREADS"
    static void promise25TooFewThreads() {
        t.due("-1", new NightColander().seen(3, -1), -1);
        t.due("0", new NightColander().seen(3, 0), 1);
    }

    static void promise25TooManyThreads() {
        t.due("401", new NightColander().seen(3, 401), -1);
        t.due("400", new NightColander().seen(3, 400), 1);
    }

    // "SEEN, 6 at most", "-5."
    static void promise25Full() {
        NightColander x = new NightColander();
        for (int i = 1; i <= 6; i++) {
            t.due("how often", x.seen(7, 12), i);
        }
        t.due("the seventh", x.seen(7, 12), -5);
        t.due("status", x.status(), -5);
        t.due("how often", x.count(3), 6);
        t.due("refused by -5", x.count(10), 1);
        x.forget();
        t.due("room again", x.seen(7, 12), 1);
    }

    // The sixth counts as the first does.
    static void promise25SixthIsLookedAt() {
        NightColander x = new NightColander();
        for (int i = 0; i < 5; i++) {
            x.seen(0, 12);
        }
        t.due("all", x.settings(NONE), 4096);
        x.seen(0, 13);
        t.due("none", x.settings(NONE), 0);
    }

    // "The first of these in that order."
    static void promise25FirstRefusal() {
        NightColander x = new NightColander();
        for (int i = 0; i < 6; i++) {
            x.seen(0, 0);
        }
        t.due("-1 ahead of -5", x.seen(8, 0), -1);
        t.due("-1 ahead of -5", x.seen(0, 401), -1);
        t.due("-5", x.seen(0, 400), -5);
    }

    static void promise25RefusedLeavesAll() {
        NightColander x = new NightColander();
        x.seen(0, 12);
        for (int far : Trial.FAR) {
            t.due("field " + far, x.seen(far, 0), -1);
            t.due("threads " + far, x.seen(0, far), -1);
        }
        t.due("how often", x.count(3), 1);
        t.due("settings", x.settings(NONE), 4096);
    }

    // "SEEN is nothing then: how often there was."
    static void promise26Nothing() {
        NightColander x = new NightColander();
        t.due("none", x.forget(), 0);
        x.seen(0, 1);
        t.due("none fits", x.settings(NONE), 0);
        t.due("one", x.forget(), 1);
        t.due("nothing then", x.count(3), 0);
        t.due("all fit", x.settings(NONE), 4096);
    }

    static void promise26Full() {
        NightColander x = new NightColander();
        for (int i = 0; i < 6; i++) {
            x.seen(0, 1);
        }
        x.seen(0, 1);
        t.due("six", x.forget(), 6);
        t.due("leaves the status", x.status(), -5);
    }

    // "how many (i NONE), the i-th", "NONE."
    static void promise27TooSmall() {
        NightColander x = new NightColander();
        t.due("i -2", x.settings(-2), NONE);
        t.due("i NONE", x.settings(NONE), 4096);
        t.due("i 0", x.settings(0), 0);
    }

    static void promise27TooLarge() {
        NightColander x = new NightColander();
        t.due("i 4095", x.settings(4095), 7777);
        t.due("i 4096", x.settings(4096), NONE);
        for (int far : Trial.FAR) {
            t.due("i " + far, x.settings(far), NONE);
        }
        x.ream(0, 0);
        x.seen(2, 15);
        t.due("512 of them", x.settings(NONE), 512);
        t.due("i 511", x.settings(511), 2777);
        t.due("i 512", x.settings(512), NONE);
    }

    static void promise27None() {
        NightColander x = new NightColander();
        x.seen(0, 400);
        t.due("how many", x.settings(NONE), 0);
        t.due("i 0", x.settings(0), NONE);
    }

    // "its TURNS as four digits, RING 0's the highest"
    static void promise27DigitsWrapRound() {
        NightColander x = new NightColander();
        t.due("7", x.settings(7), 7);
        t.due("8", x.settings(8), 10);
        t.due("63", x.settings(63), 77);
        t.due("64", x.settings(64), 100);
        t.due("511", x.settings(511), 777);
        t.due("512", x.settings(512), 1000);
    }

    static void promise27BlockedHolesRunNothing() {
        NightColander x = new NightColander();
        x.block(2, 3);
        x.seen(6, 9);
        t.due("how many", x.settings(NONE), 512);
        t.due("the first", x.settings(0), 4);
        x.seen(6, 9);
        x.seen(7, 9);
        t.due("it is above one field alone", x.settings(NONE), 0);
    }

    static void promise27FieldsWrapRound() {
        NightColander x = Trial.under("runs 0;runs 1 if ring=1 and hole=7;runs 2 if ring=3 and hole=1");
        x.seen(0, 3);
        t.due("how many", x.settings(NONE), 64);
        t.due("7 and 1, 1 and 7", x.settings(0), 107);
        t.due("the last", x.settings(63), 7177);
    }

    // "HOUR as now"
    static void promise27HourAsNow() {
        NightColander x = Trial.under("runs hour");
        x.seen(5, 36);
        t.due("hour 0", x.settings(NONE), 0);
        x.terms(0, 9);
        t.due("hour 9", x.settings(NONE), 4096);
        x.pass();
        t.due("hour 10", x.settings(NONE), 0);
    }

    // The rings' own turns do not matter, and stay.
    static void promise27TurnsStay() {
        NightColander x = new NightColander();
        x.turn(2, 6);
        x.ream(0, 2);
        x.seen(1, 15);
        t.due("the first", x.settings(0), 10);
        t.due("stays", x.hole(2, 0, 2), 6);
    }

    static void promise28WhatTooSmall() {
        t.due("what -1", new NightColander().look(-1), NONE);
    }

    static void promise28WhatTooLarge() {
        NightColander x = new NightColander();
        t.due("what 2", x.look(2), NONE);
        for (int far : Trial.FAR) {
            t.due("what " + far, x.look(far), NONE);
        }
    }

    // "NONE (none)."
    static void promise28None() {
        NightColander x = new NightColander();
        x.seen(0, 0);
        t.due("field", x.look(0), NONE);
        t.due("left", x.look(1), NONE);
    }

    static void promise28OneLeft() {
        // Hole 0 of each ring alone runs, each a bit of its own: 15 threads are those of all four.
        NightColander x = Trial.under("runs 0;runs 1 if hole=0 and ring=0;runs 2 if hole=0 and ring=1;runs 4 if hole=0 and ring=2;runs 8 if hole=0 and ring=3");
        x.seen(3, 15);
        t.due("one", x.settings(NONE), 1);
        t.due("which", x.settings(0), 3333);
        t.due("left", x.look(1), 1);
        t.due("the lowest", x.look(0), 0);
    }

    // "the lowest"
    static void promise28Lowest() {
        NightColander x = Trial.under("runs 0;runs 1 if ring=0 and hole=0 and field>4");
        t.due("5, 6, 7 are alike", x.look(0), 5);
        t.due("left", x.look(1), 3584);
        t.due("all alike", new NightColander().look(0), 0);
        t.due("all alike", new NightColander().look(1), 4096);
    }

    // All fields alike, behind another search that found something else.
    static void promise28LowestBehindOthers() {
        NightColander x = Trial.withBuckets("bars if field<5", 9);
        x.turn(0, 7);
        t.due("turned", x.turned(0), 7);
        t.due("look", x.look(0), 0);
        t.due("placed", x.placed(1, 1), 5);
        t.due("look", x.look(0), 0);
        t.due("left", x.look(1), 4096);
    }

    static void promise28LastField() {
        NightColander x = Trial.under("runs 0;runs hole if field=7 and ring=0");
        t.due("field", x.look(0), 7);
        t.due("left", x.look(1), 512);
    }

    // Each ring tells the settings apart, the last as the first does.
    static void promise28EachRing() {
        for (int r = 0; r < 4; r++) {
            NightColander x = Trial.under("runs 0;runs hole if field=6 and ring=" + r);
            t.due("field by ring " + r, x.look(0), 6);
            t.due("left by ring " + r, x.look(1), 512);
            NightColander y = Trial.under("runs 0;runs hole if ring=" + r);
            y.seen(0, 5);
            t.due("ring " + r + " is told already", y.look(0), 0);
            t.due("all of those are left", y.look(1), 512);
        }
    }

    static void promise28BlockedHolesRunNothing() {
        NightColander x = new NightColander();
        x.block(2, 3);
        t.due("left", x.look(1), 3584);
        x.seen(5, 9);
        t.due("left", x.look(1), 512);
    }

    static void promise28MostThreads() {
        NightColander x = Trial.under("runs 99;runs 98 if ring=0 and field=6 and hole=0");
        t.due("field", x.look(0), 6);
        t.due("left", x.look(1), 3584);
    }

    static void promise29RingTooSmall() {
        NightColander x = new NightColander();
        x.turn(0, 3);
        t.due("ring -2", x.turned(-2), NONE);
        t.due("ring NONE", x.turned(NONE), 0);
        t.due("ring 0", x.turned(0), 3);
    }

    static void promise29RingTooLarge() {
        NightColander x = new NightColander();
        x.turn(3, 3);
        t.due("ring 4", x.turned(4), NONE);
        t.due("ring 3", x.turned(3), 3);
        for (int far : Trial.FAR) {
            t.due("ring " + far, x.turned(far), NONE);
        }
    }

    // "NONE (it can't be)."
    static void promise29CannotBe() {
        NightColander x = new NightColander();
        x.wanted(0, 13);
        t.due("steps", x.turned(NONE), NONE);
        t.due("ring 0", x.turned(0), NONE);
        x.wanted(0, NONE);
        t.due("any is wanted", x.turned(NONE), 0);
        x.wanted(7, 0);
        t.due("0 is not any", x.turned(NONE), NONE);
    }

    // "one RING by one, either way": round by the shorter way
    static void promise29EitherWay() {
        int[] steps = {0, 1, 2, 3, 4, 3, 2, 1};
        for (int f = 0; f < 8; f++) {
            NightColander x = Trial.under("runs 0;runs 1 if ring=2 and hole=0");
            x.wanted(f, 1);
            t.due("steps to " + f, x.turned(NONE), steps[f]);
            t.due("turn", x.turned(2), f);
        }
    }

    static void promise29WrapsRound() {
        NightColander x = Trial.under("runs 0;runs 1 if ring=1 and hole=0");
        x.turn(1, 7);
        x.wanted(0, 1);
        t.due("from 7 to 0", x.turned(NONE), 1);
        x.turn(1, 0);
        x.wanted(0, NONE);
        x.wanted(7, 1);
        t.due("from 0 to 7", x.turned(NONE), 1);
        x.turn(1, 6);
        x.wanted(7, NONE);
        x.wanted(1, 1);
        t.due("from 6 to 1", x.turned(NONE), 3);
    }

    static void promise29AsItStands() {
        NightColander x = Trial.under("runs 0;runs 1 if hole=0");
        x.turn(0, 1);
        x.turn(1, 3);
        x.wanted(1, 1);
        x.wanted(3, 1);
        x.wanted(0, 2);
        t.due("steps", x.turned(NONE), 0);
        t.due("ring 1", x.turned(1), 3);
    }

    // "the first as a row of TURNS"
    static void promise29First() {
        NightColander x = Trial.under("runs 0;runs 1 if ring=0 and hole=0;runs 1 if ring=0 and hole=2");
        x.turn(0, 4);
        x.wanted(5, 1);
        t.due("by one back or forth", x.turned(NONE), 1);
        t.due("the lower turn", x.turned(0), 3);
        NightColander y = Trial.under("runs 0;runs 1 if hole=0");
        y.wanted(1, 1);
        t.due("any ring by one", y.turned(NONE), 1);
        t.due("the last ring's is the first row", y.turned(3), 1);
        t.due("ring 0 stays", y.turned(0), 0);
        NightColander z = Trial.under("runs 0;runs 1 if hole=0");
        z.wanted(7, 1);
        t.due("ring 3 to 7", z.turned(3), 7);
        t.due("ring 0 stays", z.turned(0), 0);
    }

    static void promise29FirstOfManyRows() {
        NightColander x = Trial.under("runs 0;runs 1 if hole=0 or hole=6");
        x.wanted(7, 4);
        t.due("each by one, either way", x.turned(NONE), 4);
        for (int r = 0; r < 4; r++) {
            t.due("ring " + r, x.turned(r), 1);
        }
    }

    static void promise29MostSteps() {
        NightColander x = Trial.under("runs 0;runs 1 if hole=0");
        x.wanted(4, 4);
        t.due("four by four", x.turned(NONE), 16);
        t.due("ring 3", x.turned(3), 4);
    }

    static void promise30FieldTooSmall() {
        t.due("field -1", new NightColander().cleared(-1, 0, 0), NONE);
        t.due("field 0", new NightColander().cleared(0, 0, 0), 0);
    }

    static void promise30FieldTooLarge() {
        t.due("field 8", new NightColander().cleared(8, 0, 0), NONE);
        t.due("field 7", new NightColander().cleared(7, 0, 0), 0);
    }

    // "CLEARED for v 0 .. 400"
    static void promise30TooFewThreads() {
        t.due("v -1", new NightColander().cleared(0, -1, 0), NONE);
        t.due("v 0", Trial.under("runs 0").cleared(0, 0, 0), 0);
    }

    static void promise30TooManyThreads() {
        NightColander x = Trial.under("runs 99");
        x.block(0, 2);
        t.due("v 396", x.cleared(0, 396, 1), 4);
        t.due("v 397", x.cleared(0, 397, 0), NONE);
        t.due("v 400", x.cleared(0, 400, 0), NONE);
        t.due("v 401", x.cleared(0, 401, 0), NONE);
        for (int far : Trial.FAR) {
            t.due("field " + far, x.cleared(far, 0, 0), NONE);
            t.due("v " + far, x.cleared(0, far, 0), NONE);
            t.due("what " + far, x.cleared(0, 0, far), NONE);
        }
    }

    static void promise30WhatTooSmall() {
        t.due("what -1", new NightColander().cleared(0, 0, -1), NONE);
    }

    static void promise30WhatTooLarge() {
        t.due("what 2", new NightColander().cleared(0, 0, 2), NONE);
        t.due("what 1", new NightColander().cleared(0, 0, 1), 0);
    }

    // "v THREADS or more"
    static void promise30OrMore() {
        NightColander x = new NightColander();
        x.block(5, 3);
        t.due("9 of 9", x.cleared(5, 9, 0), 0);
        t.due("10 of 9", x.cleared(5, 10, 0), 1);
        t.due("12 of 12", x.cleared(5, 12, 0), 1);
        t.due("13 of 12", x.cleared(5, 13, 0), NONE);
    }

    // "NONE (it can't be)."
    static void promise30NoneIsBlocked() {
        NightColander x = new NightColander();
        t.due("v 12", x.cleared(3, 12, 1), 0);
        t.due("v 13", x.cleared(3, 13, 0), NONE);
        t.due("v 13", x.cleared(3, 13, 1), NONE);
        x.block(4, 0);
        t.due("one above another field", x.cleared(3, 13, 0), NONE);
    }

    static void promise30AllAreBlocked() {
        NightColander x = new NightColander();
        for (int r = 0; r < 4; r++) {
            x.block(3, r);
        }
        t.due("v 0", x.cleared(3, 0, 0), 0);
        t.due("v 1", x.cleared(3, 1, 1), 1);
        t.due("v 12", x.cleared(3, 12, 0), 4);
        t.due("v 12", x.cleared(3, 12, 1), 15);
        t.due("v 9", x.cleared(3, 9, 1), 7);
    }

    // "the first by RINGS as bits"
    static void promise30First() {
        NightColander x = Trial.under("runs ring+1");
        for (int r = 0; r < 4; r++) {
            x.block(3, r);
        }
        t.due("rings 1 and 2 ahead of 0 and 3", x.cleared(3, 5, 1), 6);
        t.due("ring 3 alone", x.cleared(3, 4, 1), 8);
        t.due("rings 1, 2 and 3", x.cleared(3, 9, 1), 14);
    }

    static void promise30RingsWrapRound() {
        NightColander x = new NightColander();
        x.turn(2, 7);
        x.block(1, 2);
        t.due("1 and 7", x.cleared(0, 12, 1), 4);
        t.due("not above 1", x.cleared(1, 13, 0), NONE);
    }

    static void promise31FieldTooSmall() {
        t.due("field -1", new NightColander().drought(-1), NONE);
        t.due("field 0", new NightColander().drought(0), 0);
    }

    static void promise31FieldTooLarge() {
        NightColander x = new NightColander();
        t.due("field 8", x.drought(8), NONE);
        t.due("field 7", x.drought(7), 0);
        for (int far : Trial.FAR) {
            t.due("field " + far, x.drought(far), NONE);
        }
    }

    // "of the next 60 HOURS .. the most one behind the other without THREADS there"
    static void promise31AllHours() {
        t.due("all", Trial.under("runs 0").drought(0), 60);
    }

    static void promise31NoHour() {
        t.due("none", Trial.under("runs 1").drought(0), 0);
    }

    static void promise31AtTheEnds() {
        t.due("the first alone wet", Trial.under("runs 0;runs 1 if hour=0").drought(0), 59);
        t.due("the second alone wet", Trial.under("runs 0;runs 1 if hour=1").drought(0), 58);
        t.due("the last alone wet", Trial.under("runs 0;runs 1 if hour=59").drought(0), 59);
        t.due("one behind the last", Trial.under("runs 0;runs 1 if hour=60").drought(0), 60);
        t.due("the middle alone wet", Trial.under("runs 0;runs 1 if hour=30").drought(0), 30);
        t.due("the longer of two", Trial.under("runs 0;runs 1 if hour=20").drought(0), 39);
    }

    static void promise31BeyondTheLastHour() {
        NightColander x = at(999, "runs 0;runs 1 if hour=1000");
        t.due("hour 1000", x.drought(0), 58);
        t.due("on paper", x.count(13), 999);
    }

    static void promise32FieldTooSmall() {
        t.due("field -1", new NightColander().luck(-1), NONE);
        t.due("field 0", new NightColander().luck(0), 0);
    }

    static void promise32FieldTooLarge() {
        NightColander x = new NightColander();
        t.due("field 8", x.luck(8), NONE);
        t.due("field 7", x.luck(7), 0);
        for (int far : Trial.FAR) {
            t.due("field " + far, x.luck(far), NONE);
        }
    }

    // "how many FIELDS have fewer THREADS than one"
    static void promise32FewerNotAsMany() {
        t.due("all alike", new NightColander().luck(3), 0);
        NightColander x = Trial.under("runs field");
        for (int f = 0; f < 8; f++) {
            t.due("field " + f, x.luck(f), f);
        }
        NightColander y = Trial.under("runs 7-field");
        for (int f = 0; f < 8; f++) {
            t.due("field " + f + " the other way round", y.luck(f), 7 - f);
        }
    }

    static void promise33RingTooSmall() {
        t.due("-1, 0", new NightColander().together(-1, 0), NONE);
        t.due("0, -1", new NightColander().together(0, -1), NONE);
    }

    static void promise33RingTooLarge() {
        NightColander x = new NightColander();
        t.due("4, 0", x.together(4, 0), NONE);
        t.due("0, 4", x.together(0, 4), NONE);
        t.due("3, 0", x.together(3, 0), 8);
        for (int far : Trial.FAR) {
            t.due("far " + far, x.together(far, 0), NONE);
            t.due("0, far " + far, x.together(0, far), NONE);
            t.due("both far " + far, x.together(far, far), NONE);
        }
    }

    // "NONE (one alone, too)."
    static void promise33OneAlone() {
        for (int r = 0; r < 4; r++) {
            t.due("ring " + r, new NightColander().together(r, r), NONE);
        }
    }

    // "in how many HOURS 1 .. 8"
    static void promise33NotNow() {
        NightColander x = new NightColander();
        t.due("0, 1", x.together(0, 1), 8);
        t.due("0, 2", x.together(0, 2), 4);
        t.due("2, 0", x.together(2, 0), 4);
        t.due("1, 3", x.together(1, 3), 4);
        t.due("3, 0", x.together(3, 0), 8);
        x.turn(2, 5);
        t.due("as they stand now", x.together(0, 2), 4);
    }

    static void promise34NoSuchBucket() {
        NightColander x = new NightColander();
        t.due("none at all", x.settled(0), NONE);
        x.bucket(9, 0);
        t.due("bucket 0", x.settled(0), 0);
        t.due("bucket 1", x.settled(1), NONE);
        t.due("bucket -1", x.settled(-1), NONE);
        x.bucket(9, 1);
        x.bucket(9, 2);
        t.due("bucket 2", x.settled(2), 0);
        t.due("bucket 3", x.settled(3), NONE);
        for (int far : Trial.FAR) {
            t.due("bucket " + far, x.settled(far), NONE);
        }
    }

    static void promise34OneAlone() {
        NightColander x = Trial.withBuckets("", 9);
        x.pass();
        t.due("to itself", x.settled(0), 9);
    }

    // "(its LEVEL by 2, cut)", "(the last one to the first)"
    static void promise34LastToTheFirst() {
        NightColander x = Trial.withBuckets("", 1, 7, 12);
        x.pass();
        t.due("1 owes none, gets 6", x.settled(0), 7);
        t.due("7 owes 3, gets none", x.settled(1), 4);
        t.due("12 owes 6, gets 3", x.settled(2), 9);
        NightColander y = Trial.withBuckets("", 5, 8);
        y.pass();
        t.due("5 owes 2, gets 4", y.settled(0), 7);
        t.due("8 owes 4, gets 2", y.settled(1), 6);
    }

    // "FEW, k 1 .. 20"
    static void promise35TooFewRust() {
        t.due("k 0", new NightColander().few(0, 5), NONE);
        t.due("k 1", new NightColander().few(1, 1), 900000000000L);
    }

    static void promise35TooManyRust() {
        NightColander x = new NightColander();
        t.due("k 21", x.few(21, 5), NONE);
        t.due("k 20", x.few(20, 5), WHOLE);
        x.terms(3, 10);
        t.due("k 20, 19 rust", x.few(20, 19), WHOLE);
        t.due("k 20, 20 rust", x.few(20, 20), 0);
        t.due("k 19, 19 rust", x.few(19, 19), 0);
    }

    // "n 0 .. 99"
    static void promise35TooFewHoles() {
        t.due("n -1", new NightColander().few(1, -1), NONE);
        t.due("n 0", new NightColander().few(1, 0), WHOLE);
        t.due("n 0, k 20", new NightColander().few(20, 0), WHOLE);
    }

    static void promise35TooManyHoles() {
        NightColander x = new NightColander();
        t.due("n 100", x.few(1, 100), NONE);
        long cut = WHOLE;
        for (int i = 0; i < 99; i++) {
            cut = cut * 9 / 10;
        }
        t.due("n 99", x.few(1, 99), cut);
        for (int far : Trial.FAR) {
            t.due("k " + far, x.few(far, 1), NONE);
            t.due("n " + far, x.few(1, far), NONE);
        }
        t.due("is not refused", x.count(7) + x.status(), 0);
    }

    // "RUST 0 .. 10"
    static void promise35NoneRusts() {
        NightColander x = new NightColander();
        x.terms(3, 0);
        t.due("none", x.few(1, 99), WHOLE);
        t.due("none, k 20", x.few(20, 99), WHOLE);
    }

    static void promise35AllRust() {
        NightColander x = new NightColander();
        x.terms(3, 10);
        t.due("fewer than 3 of 3", x.few(3, 3), 0);
        t.due("fewer than 4 of 3", x.few(4, 3), WHOLE);
    }

    // "both cut"
    static void promise35Cut() {
        NightColander x = new NightColander();
        x.terms(3, 5);
        // Each part by itself is cut to 0 at last, so that not all is left.
        long[] parts = new long[100];
        parts[0] = WHOLE;
        for (int i = 0; i < 50; i++) {
            for (int did = 99; did >= 0; did--) {
                parts[did] = parts[did] * 5 / 10 + (did > 0 ? parts[did - 1] * 5 / 10 : 0);
            }
        }
        long sum = 0;
        for (int did = 0; did < 20; did++) {
            sum += parts[did];
        }
        t.due("fewer than 20 of 50", x.few(20, 50), sum);
        x.terms(3, 3);
        t.due("7 of ten, thirteen times cut", x.few(1, 13), 9688901040L);
        t.due("fewer than 2 of 13", x.few(2, 13), 9688901040L + onceOfThirteen());
    }

    // 3 of ten once, 7 of ten twelve times, cut each time as the parts of one that rusted come together.
    private static long onceOfThirteen() {
        long none = WHOLE;
        long once = 0;
        for (int i = 0; i < 13; i++) {
            once = once * 7 / 10 + none * 3 / 10;
            none = none * 7 / 10;
        }
        return once;
    }

    // "NONE (no such LAW)."
    static void promise36NoSuchLaw() {
        NightColander x = new NightColander();
        t.due("no law at all", x.worth(0), NONE);
        Trial.law(x, "pays 2");
        t.due("law 0", x.worth(0), 0);
        t.due("law 1", x.worth(1), NONE);
        t.due("law -2", x.worth(-2), NONE);
        for (int far : Trial.FAR) {
            t.due("law " + far, x.worth(far), NONE);
        }
        t.due("is not refused", x.count(8) + x.status(), 0);
    }

    static void promise36LastLaw() {
        NightColander x = Trial.withBuckets("", 9);
        x.pass();
        for (int i = 0; i < 6; i++) {
            Trial.law(x, "pays " + i);
        }
        t.due("law 5", x.worth(5), 45);
        t.due("law 6", x.worth(6), NONE);
    }

    // "(NONE: none)"
    static void promise36None() {
        NightColander x = Trial.withBuckets("pays 7", 9);
        t.due("nothing", x.worth(0), 0);
        x.pass();
        t.due("without a law", x.worth(NONE), 9);
        t.due("by the law", x.worth(0), 63);
        t.due("still in force", x.count(12), 0);
    }

    static void promise36WithoutBuckets() {
        t.due("nothing", new NightColander().worth(NONE), 0);
        t.due("nothing", Trial.under("pays 9").worth(0), 0);
    }

    // "PAID 0 .. 99"
    static void promise36Most() {
        NightColander x = Trial.withBuckets("runs 99;pays 1000", 99, 99, 99);
        x.pass();
        t.due("most", x.worth(0), 3 * 99 * 99);
    }

    // "the SEED (0 .. 1,000,000)"
    static void promise37SeedTooSmall() {
        t.due("seed -1", new NightColander().years(-1, 1), -1);
        t.due("seed 0", new NightColander().years(0, 1), 0);
    }

    static void promise37SeedTooLarge() {
        t.due("seed 1,000,001", new NightColander().years(1000001, 1), -1);
        t.due("seed 1,000,000", new NightColander().years(1000000, 1), 0);
    }

    // "n 1 .. 60"
    static void promise37TooFewYears() {
        t.due("n 0", new NightColander().years(5, 0), -1);
        NightColander x = new NightColander();
        t.due("n 1", x.years(5, 1), 0);
        t.due("ring 0", x.drawn(0, 1), 1);
    }

    static void promise37TooManyYears() {
        t.due("n 61", new NightColander().years(5, 61), -1);
        NightColander x = new NightColander();
        t.due("n 60", x.years(5, 60), 0);
        t.due("ring 0", x.drawn(0, 1), 4);
        t.due("ring 1", x.drawn(1, 1), 0);
    }

    static void promise37RefusedLeavesAll() {
        NightColander x = Trial.withBuckets("", 99);
        x.years(5, 3);
        String ahead = Trial.all(x);
        for (int far : Trial.FAR) {
            t.due("n " + far, x.years(0, far), -1);
        }
        t.due("seed", x.years(Integer.MIN_VALUE, 1), -1);
        t.due("seed", x.years(Integer.MAX_VALUE, 1), -1);
        t.due("status", x.status(), -1);
        t.same("the latest years", Trial.all(x), ahead);
        t.due("turn", x.drawn(0, 1), 3);
    }

    // "(at HOUR 999 it ends)"
    static void promise37LastHour() {
        NightColander x = Trial.withBuckets("", 99);
        x.terms(0, 999);
        t.due("at 999", x.years(5, 60), 0);
        t.due("status", x.status(), 0);
        t.due("nothing was drawn", x.drawn(0, 0) + x.drawn(1, 0) + x.drawn(2, 0) + x.drawn(3, 0), 32);
        t.due("turn", x.drawn(0, 1), 0);
        x.terms(0, 998);
        x.years(5, 60);
        t.due("one at 998", x.drawn(0, 1), 1);
        x.terms(0, 940);
        x.years(5, 60);
        t.due("59 at 940", x.drawn(0, 1), 3);
        x.terms(0, 939);
        x.years(5, 60);
        t.due("60 at 939", x.drawn(0, 1), 4);
    }

    // "(s times 1103 and 12345) modulo 1,000,003": the greatest seeds go beyond it
    static void promise37DrawsWrapRound() {
        for (int seed : new int[] {0, 1, 895, 896, 999999, 1000000}) {
            NightColander x = new NightColander();
            int[] bores = {8, 8, 8, 8};
            boolean[] blocked = new boolean[32];
            int[] bore = new int[32];
            java.util.Arrays.fill(bore, 1);
            long s = seed;
            for (int i = 0; i < 60; i++) {
                s = (s * 1103 + 12345) % 1000003;
                int ring = (int) (s % 4);
                s = (s * 1103 + 12345) % 1000003;
                int hole = (int) (s % 8);
                s = (s * 1103 + 12345) % 1000003;
                int at = ring * 8 + hole;
                blocked[at] ^= s % 3 == 0;
                if (s % 3 == 1 && bore[at] < 9) {
                    bore[at]++;
                    bores[ring]++;
                }
            }
            t.due("status", x.years(seed, 60), 0);
            for (int r = 0; r < 4; r++) {
                t.due("seed " + seed + " ring " + r, x.drawn(r, 0), bores[r]);
            }
        }
    }

    // "at 0 it is changed as by BLOCK, at 1 it is REAMED .., at 2 nothing"
    static void promise37EachDraw() {
        boolean[] met = new boolean[4];
        for (int seed = 0; seed < 60; seed++) {
            long first = (seed * 1103L + 12345) % 1000003;
            long second = (first * 1103 + 12345) % 1000003;
            int what = (int) ((second * 1103 + 12345) % 1000003 % 3);
            int ring = (int) (first % 4);
            int hole = (int) (second % 8);
            NightColander x = new NightColander();
            x.bucket(99, hole);
            boolean wasBlocked = seed % 2 == 1;
            if (wasBlocked) {
                x.block(hole, ring);
            }
            int[] free = {9, 15, 12};
            int[] blocked = {12, 9, 9};
            met[what == 0 && wasBlocked ? 3 : what] = true;
            t.due("caught by seed " + seed, x.years(seed, 1), wasBlocked ? blocked[what] : free[what]);
            t.due("bores by seed " + seed, x.drawn(ring, 0), what == 1 ? 9 : 8);
        }
        for (int i = 0; i < 4; i++) {
            t.due("met " + i, met[i] ? 1 : 0, 1);
        }
    }

    // "it is REAMED, if it can be"
    static void promise37WidestBore() {
        NightColander x = new NightColander();
        int[] nines = new int[96];
        for (int at = 0; at < 32; at++) {
            nines[3 * at] = at / 8;
            nines[3 * at + 1] = at % 8;
            nines[3 * at + 2] = 9;
        }
        Trial.feed(x, nines);
        t.due("all told", x.row(), 32);
        x.years(5, 60);
        for (int r = 0; r < 4; r++) {
            t.due("ring " + r, x.drawn(r, 0), 72);
        }
    }

    // "on paper"
    static void promise37OnPaper() {
        NightColander x = Trial.withBuckets("", 99);
        x.block(1, 1);
        String ahead = Trial.all(x);
        x.years(7, 60);
        t.same("the night", Trial.all(x).replaceAll("years.*", ""), ahead.replaceAll("years.*", ""));
    }

    static void promise37Room() {
        NightColander x = Trial.withBuckets("runs 9", 99);
        t.due("as far as it has room", x.years(5, 60), 99);
        t.due("level", x.drawn(0, 2), 99);
        t.due("without buckets", Trial.under("runs 9").years(5, 60), 0);
    }

    // "NONE." ahead of any years
    static void promise38AheadOfAny() {
        NightColander x = Trial.withBuckets("", 9);
        for (int what = 0; what < 3; what++) {
            t.due("what " + what, x.drawn(0, what), NONE);
        }
        x.years(0, 0);
        t.due("behind refused ones", x.drawn(0, 0), NONE);
    }

    static void promise38WhatTooSmall() {
        NightColander x = Trial.withBuckets("", 9);
        x.years(5, 1);
        t.due("what -1", x.drawn(0, -1), NONE);
    }

    static void promise38WhatTooLarge() {
        NightColander x = Trial.withBuckets("", 9);
        x.years(5, 1);
        t.due("what 3", x.drawn(0, 3), NONE);
        t.due("what 2", x.drawn(0, 2), 9);
        for (int far : Trial.FAR) {
            t.due("what " + far, x.drawn(0, far), NONE);
        }
    }

    static void promise38RingTooSmall() {
        NightColander x = new NightColander();
        x.years(5, 1);
        t.due("bores of -1", x.drawn(-1, 0), NONE);
        t.due("turn of -1", x.drawn(-1, 1), NONE);
        t.due("turn of 0", x.drawn(0, 1), 1);
    }

    static void promise38RingTooLarge() {
        NightColander x = new NightColander();
        x.years(5, 1);
        t.due("bores of 4", x.drawn(4, 0), NONE);
        t.due("turn of 4", x.drawn(4, 1), NONE);
        t.due("turn of 3", x.drawn(3, 1), 4);
        for (int far : Trial.FAR) {
            t.due("bores of " + far, x.drawn(far, 0), NONE);
            t.due("turn of " + far, x.drawn(far, 1), NONE);
            t.due("level of " + far, x.drawn(far, 2), NONE);
        }
    }

    static void promise38NoSuchBucket() {
        NightColander x = Trial.withBuckets("", 9, 9);
        x.years(5, 1);
        t.due("bucket 1", x.drawn(1, 2), 9);
        t.due("bucket 2", x.drawn(2, 2), NONE);
        t.due("bucket -1", x.drawn(-1, 2), NONE);
        x.bucket(9, 2);
        t.due("not there then", x.drawn(2, 2), NONE);
        x.years(5, 1);
        t.due("there now", x.drawn(2, 2), 9);
        t.due("bucket 3", x.drawn(3, 2), NONE);
    }

    static void promise38LatestYearsAlone() {
        NightColander x = new NightColander();
        x.years(5, 9);
        x.years(5, 2);
        t.due("turn", x.drawn(0, 1), 2);
        x.turn(0, 6);
        x.pass();
        t.due("as they were then", x.drawn(0, 1), 2);
    }
}
