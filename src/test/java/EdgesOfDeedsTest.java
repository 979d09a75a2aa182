/** Promises 18 to 22: each sentence that names a boundary has a test of its own, named after the promise. */
public final class EdgesOfDeedsTest {
    private static final int NONE = NightColander.NONE;
    private static final Trial t = new Trial("EdgesOfDeedsTest");

    public static void main(String[] args) throws ReflectiveOperationException {
        t.runNamed(EdgesOfDeedsTest.class, 18, 22);
        t.end();
    }

    private static NightColander at(int hour) {
        NightColander x = new NightColander();
        x.terms(0, hour);
        return x;
    }

    // "-1."
    static void promise18HoleTooSmall() {
        t.due("hole -1", new NightColander().block(-1, 2), -1);
        t.due("hole 0", new NightColander().block(0, 2), 1);
    }

    static void promise18HoleTooLarge() {
        t.due("hole 8", new NightColander().block(8, 2), -1);
        t.due("hole 7", new NightColander().block(7, 2), 1);
    }

    static void promise18RingTooSmall() {
        t.due("ring -1", new NightColander().block(2, -1), -1);
        t.due("ring 0", new NightColander().block(2, 0), 1);
    }

    static void promise18RingTooLarge() {
        t.due("ring 4", new NightColander().block(2, 4), -1);
        t.due("ring 3", new NightColander().block(2, 3), 1);
    }

    static void promise18RefusedLeavesAll() {
        NightColander x = Trial.withBuckets("", 9);
        x.block(5, 1);
        String ahead = Trial.all(x);
        x.block(8, 0);
        for (int far : Trial.FAR) {
            t.due("hole " + far, x.block(far, 0), -1);
            t.due("ring " + far, x.block(0, far), -1);
        }
        t.due("status", x.status(), -1);
        t.same("refused", Trial.all(x), ahead);
    }

    // "it is BLOCKED, if it was not, else no more"
    static void promise18BlockedNoMore() {
        NightColander x = new NightColander();
        t.due("blocked", x.block(7, 3), 1);
        t.due("is", x.hole(3, 7, 1), 1);
        t.due("no more", x.block(7, 3), 0);
        t.due("0 is no refusal", x.status(), 0);
        t.due("is not", x.hole(3, 7, 1), 0);
        t.due("both can be undone", x.count(5), 2);
    }

    static void promise18AllBlocked() {
        NightColander x = new NightColander();
        for (int at = 0; at < 32; at++) {
            t.due("one more", x.block(at % 8, at / 8), 1);
        }
        t.due("all", x.count(2), 32);
        t.due("no threads", x.flow(0), 0);
    }

    static void promise19HoleTooSmall() {
        t.due("hole -1", new NightColander().ream(-1, 2), -1);
        t.due("hole 0", new NightColander().ream(0, 2), 2);
    }

    static void promise19HoleTooLarge() {
        t.due("hole 8", new NightColander().ream(8, 2), -1);
        t.due("hole 7", new NightColander().ream(7, 2), 2);
    }

    static void promise19RingTooSmall() {
        t.due("ring -1", new NightColander().ream(2, -1), -1);
        t.due("ring 0", new NightColander().ream(2, 0), 2);
    }

    static void promise19RingTooLarge() {
        t.due("ring 4", new NightColander().ream(2, 4), -1);
        t.due("ring 3", new NightColander().ream(2, 3), 2);
    }

    // "To REAM one of BORE 0 .. 8", "-3 it is 9."
    static void promise19WidestBore() {
        NightColander x = new NightColander();
        Trial.feed(x, 3, 7, 8, 1, 4, 9);
        x.row();
        t.due("8", x.ream(7, 3), 9);
        t.due("9", x.ream(7, 3), -3);
        t.due("status", x.status(), -3);
        t.due("told as 9", x.ream(4, 1), -3);
        t.due("still 9", x.hole(3, 7, 0), 9);
        t.due("can be undone", x.count(5), 1);
        t.due("refused by -3", x.count(9), 2);
    }

    static void promise19NarrowestBore() {
        NightColander x = new NightColander();
        Trial.feed(x, 2, 2, 0);
        x.row();
        t.due("0", x.ream(2, 2), 1);
    }

    static void promise19RefusedLeavesAll() {
        NightColander x = new NightColander();
        x.ream(6, 3);
        String ahead = Trial.all(x);
        for (int far : Trial.FAR) {
            t.due("hole " + far, x.ream(far, 0), -1);
            t.due("ring " + far, x.ream(0, far), -1);
        }
        t.same("refused", Trial.all(x), ahead);
    }

    // "-1" of the field
    static void promise20FieldTooSmall() {
        t.due("field -1", Trial.withBuckets("", 9, 9).set(1, -1), -1);
        NightColander x = new NightColander();
        x.bucket(9, 3);
        t.due("field 0", x.set(0, 0), 3);
    }

    static void promise20FieldTooLarge() {
        t.due("field 8", Trial.withBuckets("", 9, 9).set(1, 8), -1);
        t.due("field 7", Trial.withBuckets("", 9, 9).set(1, 7), 1);
    }

    // "-2 there is no such BUCKET"
    static void promise20NoSuchBucket() {
        NightColander x = new NightColander();
        t.due("none at all", x.set(0, 5), -2);
        x.bucket(9, 0);
        x.bucket(9, 1);
        t.due("bucket 2", x.set(2, 5), -2);
        t.due("bucket 1", x.set(1, 5), 1);
        x.bucket(9, 2);
        t.due("bucket 2 then", x.set(2, 6), 2);
        t.due("refused by -2", x.count(8), 2);
    }

    // A number that no bucket can have: there is no such bucket (as NOTES.md says).
    static void promise20NeverABucket() {
        NightColander x = Trial.withBuckets("", 9, 9, 9);
        t.due("bucket -1", x.set(-1, 5), -2);
        t.due("bucket 3", x.set(3, 5), -2);
        for (int far : Trial.FAR) {
            t.due("bucket " + far, x.set(far, 5), -2);
        }
    }

    // "at another FIELD"
    static void promise20ItsOwnField() {
        NightColander x = Trial.withBuckets("", 9);
        t.due("its own", x.set(0, 0), -3);
        t.due("status", x.status(), -3);
    }

    // "nobody's BUCKET is at"
    static void promise20AnothersField() {
        NightColander x = Trial.withBuckets("", 9, 9, 9);
        t.due("another's", x.set(0, 2), -3);
        t.due("another's", x.set(2, 0), -3);
        x.set(2, 7);
        t.due("left by another", x.set(0, 2), 0);
    }

    // "from which it is not BARRED"
    static void promise20Barred() {
        NightColander x = Trial.withBuckets("bars if bucket=0 and field=7", 9, 9);
        t.due("barred", x.set(0, 7), -3);
        t.due("the other one is not", x.set(1, 7), 1);
        NightColander y = Trial.withBuckets("bars if level>0 and hour=1", 9);
        t.due("not yet", y.set(0, 5), 0);
        y.pass();
        t.due("by its level and the hour", y.set(0, 6), -3);
        y.force(NONE);
        t.due("without the law", y.set(0, 6), 5);
    }

    // "The first of these in that order."
    static void promise20FirstRefusal() {
        NightColander x = Trial.withBuckets("bars", 9);
        t.due("-1 ahead of -2", x.set(1, 8), -1);
        t.due("-1 ahead of -2", x.set(-1, -1), -1);
        t.due("-2 ahead of -3", x.set(1, 0), -2);
        t.due("-3", x.set(0, 5), -3);
    }

    static void promise20RefusedLeavesAll() {
        NightColander x = Trial.withBuckets("bars if field=4", 9, 9);
        x.set(1, 3);
        String ahead = Trial.all(x);
        x.set(0, 0);
        x.set(0, 3);
        x.set(0, 4);
        x.set(2, 5);
        for (int far : Trial.FAR) {
            t.due("field " + far, x.set(0, far), -1);
        }
        t.same("refused", Trial.all(x), ahead);
    }

    // "it is the next HOUR (at 999 it can't be)", "-3."
    static void promise21LastHour() {
        NightColander x = at(998);
        t.due("at 998", x.pass(), 0);
        t.due("hour", x.count(13), 999);
        String ahead = Trial.all(x);
        t.due("at 999", x.pass(), -3);
        t.due("status", x.status(), -3);
        t.same("refused", Trial.all(x), ahead);
        t.due("refused by -3", x.count(9), 1);
    }

    static void promise21WithoutBuckets() {
        NightColander x = new NightColander();
        t.due("caught", x.pass(), 0);
        t.due("status", x.status(), 0);
        t.due("hour", x.count(13), 1);
    }

    // "CATCHES them as far as it has room"
    static void promise21Room() {
        NightColander x = Trial.withBuckets("", 12, 13, 11);
        t.due("12 and 12 and 11", x.pass(), 35);
        t.due("just full", x.of(0, 1), 12);
        t.due("room for one", x.of(1, 1), 12);
        t.due("no room", x.of(2, 1), 11);
        t.due("one", x.pass(), 1);
        t.due("none", x.pass(), 0);
        t.due("as full as can be", x.count(1), 36);
    }

    // "then each LEAKS (asked as its LEVEL is then ..)"
    static void promise21LeaksByTheLevelThen() {
        NightColander x = Trial.withBuckets("leaks 5 if level=12", 50);
        t.due("caught", x.pass(), 12);
        t.due("level", x.of(0, 1), 7);
        NightColander y = Trial.withBuckets("leaks 5 if level=0", 50);
        y.pass();
        t.due("not by the level ahead", y.of(0, 1), 12);
    }

    // "(.. HOUR as ahead ..)"
    static void promise21LeaksByTheHourAhead() {
        NightColander x = Trial.withBuckets("leaks 5 if hour=0", 50);
        x.pass();
        t.due("leaks", x.of(0, 1), 7);
        x.pass();
        t.due("leaks no more", x.of(0, 1), 19);
    }

    // "(.. 0 at least)"
    static void promise21LeaksToZeroAtLeast() {
        NightColander x = Trial.withBuckets("leaks 9;runs 2", 50);
        t.due("caught", x.pass(), 8);
        t.due("level", x.of(0, 1), 0);
        NightColander y = Trial.withBuckets("leaks 8;runs 2", 50);
        y.pass();
        t.due("just 0", y.of(0, 1), 0);
        NightColander z = Trial.withBuckets("leaks 7;runs 2", 50);
        z.pass();
        t.due("one is left", z.of(0, 1), 1);
    }

    // A full bucket that leaks has room again in the next hour alone.
    static void promise21FullBucketThatLeaks() {
        NightColander x = Trial.withBuckets("leaks 4", 10);
        t.due("first", x.pass(), 10);
        t.due("level", x.of(0, 1), 6);
        t.due("second", x.pass(), 4);
        t.due("level", x.of(0, 1), 6);
    }

    // "each RING r turns by r and 1 (modulo 8)"
    static void promise21RingsWrapRound() {
        NightColander x = new NightColander();
        for (int r = 0; r < 4; r++) {
            x.turn(r, 7);
        }
        x.pass();
        for (int r = 0; r < 4; r++) {
            t.due("ring " + r, x.hole(r, 0, 2), r);
        }
        NightColander y = new NightColander();
        for (int i = 0; i < 8; i++) {
            y.pass();
        }
        for (int r = 0; r < 4; r++) {
            t.due("ring " + r + " behind eight", y.turn(r, 0), 0);
        }
    }

    // "THREADS that all HOLES above it .. RUN (asked as it was ahead)"
    static void promise21AskedAsItWasAhead() {
        NightColander x = Trial.withBuckets("runs 1 if hour=0;runs 2 if hour=1;runs 0 if field>0", 50);
        t.due("hour 0", x.pass(), 4);
        t.due("hour 1", x.pass(), 8);
    }

    static void promise21AllBlocked() {
        NightColander x = Trial.withBuckets("runs 9", 50);
        for (int r = 0; r < 4; r++) {
            x.block(0, r);
        }
        t.due("caught", x.pass(), 0);
    }

    // "-3 there is none"
    static void promise22None() {
        NightColander x = new NightColander();
        String ahead = Trial.all(x);
        t.due("new", x.undo(), -3);
        t.due("status", x.status(), -3);
        t.same("refused", Trial.all(x), ahead);
        x.block(0, 0);
        t.due("one", x.undo(), 0);
        t.due("0 is no refusal", x.status(), 0);
        t.due("an undone one can't be undone", x.undo(), -3);
        t.due("refused by -3", x.count(9), 2);
    }

    // "16 are kept"
    static void promise22SixteenAreKept() {
        NightColander x = new NightColander();
        for (int i = 1; i <= 17; i++) {
            x.block(i % 8, i / 8);
            t.due("can be undone", x.count(5), Math.min(i, 16));
        }
        for (int i = 0; i < 16; i++) {
            t.due("undone", x.undo(), 0);
        }
        t.due("no more", x.undo(), -3);
        t.due("the first stays", x.hole(0, 1, 1), 1);
        t.due("it alone", x.count(2), 1);
    }

    static void promise22SixteenOfMany() {
        NightColander x = Trial.withBuckets("", 99);
        x.block(7, 3);
        x.ream(6, 3);
        Trial.orders(x, "pass times 14");
        t.due("all sixteen", x.count(5), 16);
        Trial.orders(x, "pass times 15;set 0 at 5");
        t.due("sixteen", x.count(5), 16);
        t.due("the latest", x.undo(), 2);
        for (int i = 0; i < 15; i++) {
            t.due("an hour", x.undo(), 3);
        }
        t.due("no more", x.undo(), -3);
        t.due("hour", x.count(13), 14);
    }

    // Undoing makes room: the next deeds come in the place of those undone.
    static void promise22KeptAgain() {
        NightColander x = new NightColander();
        for (int i = 0; i < 20; i++) {
            x.pass();
        }
        for (int i = 0; i < 10; i++) {
            x.undo();
        }
        for (int i = 0; i < 3; i++) {
            x.block(i, 0);
        }
        t.due("six and three", x.count(5), 9);
        for (int i = 0; i < 3; i++) {
            t.due("a block", x.undo(), 0);
        }
        for (int i = 0; i < 6; i++) {
            t.due("an hour", x.undo(), 3);
        }
        t.due("hour", x.count(13), 4);
        t.due("no more", x.undo(), -3);
    }

    // "(by ORDERS, too ..)"
    static void promise22ByOrdersToo() {
        NightColander x = Trial.withBuckets("", 99);
        Trial.orders(x, "block 1 of 1;ream 2 of 2;set 0 at 3;pass");
        t.due("pass", x.undo(), 3);
        t.due("set", x.undo(), 2);
        t.due("ream", x.undo(), 1);
        t.due("block", x.undo(), 0);
        t.due("none", x.undo(), -3);
    }

    // All but what was done stays, and what was done is as ahead of it.
    static void promise22AllIsAsAhead() {
        NightColander x = Trial.withBuckets("leaks 2", 40, 50, 60);
        String[] ahead = new String[4];
        x.pass();
        ahead[0] = Trial.all(x);
        x.block(4, 2);
        ahead[1] = Trial.all(x);
        x.ream(4, 2);
        ahead[2] = Trial.all(x);
        x.set(1, 6);
        t.due("set", x.undo(), 2);
        t.same("set undone", Trial.all(x), ahead[2]);
        t.due("ream", x.undo(), 1);
        t.same("ream undone", Trial.all(x), ahead[1]);
    }

    static void promise22BlockAndPassAsAhead() {
        NightColander x = Trial.withBuckets("leaks 2", 40, 50, 60);
        x.pass();
        String first = Trial.all(x);
        x.pass();
        t.due("pass", x.undo(), 3);
        t.same("pass undone", Trial.all(x), first);
        x.block(4, 2);
        t.due("block", x.undo(), 0);
        t.same("block undone", Trial.all(x), first);
    }

    static void promise22RingsWrapBack() {
        NightColander x = new NightColander();
        x.turn(0, 7);
        x.turn(3, 4);
        x.pass();
        t.due("ring 0", x.hole(0, 0, 2), 0);
        t.due("ring 3", x.hole(3, 0, 2), 0);
        x.undo();
        t.due("ring 0 back", x.hole(0, 0, 2), 7);
        t.due("ring 1 back", x.hole(1, 0, 2), 0);
        t.due("ring 2 back", x.hole(2, 0, 2), 0);
        t.due("ring 3 back", x.hole(3, 0, 2), 4);
    }

    static void promise22LevelOfAFullBucket() {
        NightColander x = Trial.withBuckets("leaks 9", 5, 15);
        x.pass();
        t.due("level", x.of(1, 1), 3);
        x.pass();
        x.undo();
        t.due("of the one that leaks all", x.of(0, 1), 0);
        t.due("as ahead", x.of(1, 1), 3);
        x.undo();
        t.due("as at first", x.count(1), 0);
    }

    static void promise22LastHour() {
        NightColander x = at(998);
        x.pass();
        x.pass();
        t.due("undone", x.undo(), 3);
        t.due("hour", x.count(13), 998);
        t.due("none", x.undo(), -3);
    }

    static void promise22WidestBore() {
        NightColander x = new NightColander();
        Trial.feed(x, 1, 1, 8);
        x.row();
        x.ream(1, 1);
        x.ream(1, 1);
        t.due("undone", x.undo(), 1);
        t.due("bore", x.hole(1, 1, 0), 8);
        t.due("the refused one is none", x.undo(), -3);
    }

    // "nothing that was ahead of a turn() .. that was not REFUSED can be undone"
    static void promise22BehindTurn() {
        NightColander x = new NightColander();
        x.block(0, 0);
        x.turn(0, 8);
        t.due("refused", x.count(5), 1);
        x.turn(0, 0);
        t.due("not refused", x.count(5), 0);
        t.due("none", x.undo(), -3);
        x.ream(0, 0);
        t.due("behind it", x.undo(), 1);
    }

    static void promise22BehindBucket() {
        NightColander x = new NightColander();
        x.block(0, 0);
        x.bucket(0, 0);
        t.due("refused", x.count(5), 1);
        x.bucket(9, 0);
        t.due("none", x.undo(), -3);
        x.block(0, 0);
        x.bucket(9, 0);
        t.due("refused by -3", x.count(5), 1);
        t.due("undone", x.undo(), 0);
    }

    static void promise22BehindTerms() {
        NightColander x = new NightColander();
        x.pass();
        x.terms(1, 10);
        t.due("refused", x.count(5), 1);
        x.terms(1, 3);
        t.due("none", x.undo(), -3);
        t.due("hour", x.count(13), 1);
    }

    static void promise22BehindRow() {
        NightColander x = new NightColander();
        x.block(0, 0);
        x.row();
        t.due("refused", x.count(5), 1);
        Trial.feed(x, 9);
        x.row();
        t.due("a pea alone", x.undo(), -3);
        t.due("still blocked", x.count(2), 1);
    }

    // Only those four take it away, and back().
    static void promise22OthersLeaveIt() {
        NightColander x = Trial.withBuckets("", 9);
        x.pass();
        x.wanted(0, 3);
        Trial.law(x, "runs 1");
        Trial.law(x, "runs");
        x.force(0);
        x.seen(1, 1);
        x.forget();
        x.years(5, 5);
        x.image(0);
        x.back(1);
        Trial.orders(x, "block 9 of 9");
        Trial.orders(x, "block");
        Trial.orders(x, "pass if 1=2");
        t.due("one", x.count(5), 1);
        t.due("undone", x.undo(), 3);
        t.due("level", x.of(0, 1), 0);
        t.due("what was seen, wanted, told stays", x.count(4) + x.count(12) + x.wanted(0, 0), 4);
    }

    // "(nothing, behind back())"
    static void promise22BehindBack() {
        NightColander x = new NightColander();
        x.block(0, 0);
        x.image(0);
        x.block(1, 0);
        x.back(0);
        t.due("none", x.undo(), -3);
        t.due("as kept", x.count(2), 1);
    }
}
