/** Promises 39 to 42: each sentence that names a boundary has a test of its own, named after the promise. */
public final class EdgesOfImagesTest {
    private static final int NONE = NightColander.NONE;
    private static final Trial t = new Trial("EdgesOfImagesTest");

    public static void main(String[] args) throws ReflectiveOperationException {
        t.runNamed(EdgesOfImagesTest.class, 39, 42);
        t.end();
    }

    // "IMAGES 0, 1", "-1."
    static void promise39TooSmall() {
        NightColander x = new NightColander();
        t.due("image -1", x.image(-1), -1);
        t.due("status", x.status(), -1);
        t.due("image 0", x.image(0), 0);
        t.due("status", x.status(), 0);
    }

    static void promise39TooLarge() {
        NightColander x = new NightColander();
        t.due("image 2", x.image(2), -1);
        t.due("image 1", x.image(1), 0);
        for (int far : Trial.FAR) {
            t.due("image " + far, x.image(far), -1);
        }
        t.due("refused by -1", x.count(7), 1 + Trial.FAR.length);
    }

    static void promise39KeptAgain() {
        NightColander x = new NightColander();
        x.turn(0, 1);
        x.image(0);
        x.turn(0, 2);
        x.image(0);
        x.turn(0, 3);
        x.back(0);
        t.due("the later one", x.turn(0, 0), 2);
    }

    static void promise39EachItsOwn() {
        NightColander x = new NightColander();
        x.turn(0, 1);
        x.image(0);
        x.turn(0, 2);
        x.image(1);
        x.back(0);
        t.due("image 0", x.hole(0, 0, 2), 1);
        x.back(1);
        t.due("image 1", x.hole(0, 0, 2), 2);
    }

    static void promise39LeavesAll() {
        NightColander x = Trial.withBuckets("runs 5", 50);
        x.pass();
        Trial.feed(x, "tape");
        String ahead = Trial.all(x);
        x.image(1);
        x.image(2);
        t.same("image", Trial.all(x), ahead);
    }

    static void promise40TooSmall() {
        NightColander x = new NightColander();
        x.image(0);
        t.due("image -1", x.back(-1), -1);
        t.due("image 0", x.back(0), 0);
    }

    static void promise40TooLarge() {
        NightColander x = new NightColander();
        x.image(1);
        t.due("image 2", x.back(2), -1);
        t.due("image 1", x.back(1), 0);
        for (int far : Trial.FAR) {
            t.due("image " + far, x.back(far), -1);
        }
        t.due("refused by -2", x.count(8), 0);
    }

    // "-2 it was not kept."
    static void promise40NotKept() {
        NightColander x = new NightColander();
        t.due("image 0", x.back(0), -2);
        t.due("image 1", x.back(1), -2);
        x.image(1);
        t.due("image 0 still", x.back(0), -2);
        t.due("status", x.status(), -2);
        t.due("image 1", x.back(1), 0);
        t.due("refused by -2", x.count(8), 3);
        x.image(2);
        t.due("image 0 by a refused one", x.back(0), -2);
    }

    static void promise40RefusedLeavesAll() {
        NightColander x = Trial.withBuckets("runs 5", 50);
        x.pass();
        String ahead = Trial.all(x);
        x.back(0);
        x.back(2);
        t.same("refused", Trial.all(x), ahead);
    }

    // "BACK to one all that it keeps is as it was then"
    static void promise40AllThatItKeeps() {
        NightColander x = full();
        x.image(0);
        String ahead = Trial.all(x);
        Trial.feed(x, 0, 0, 5, 1, 1, 5);
        x.row();
        for (int r = 0; r < 4; r++) {
            x.turn(r, r + 2);
        }
        x.terms(0, 77);
        x.terms(1, 7);
        x.terms(2, 6);
        x.terms(3, 8);
        x.set(2, 6);
        x.pass();
        x.force(NONE);
        x.wanted(0, 99);
        x.wanted(7, NONE);
        x.forget();
        x.back(0);
        t.same("back", Trial.all(x).replaceAll(" peas.*", ""), ahead.replaceAll(" peas.*", "").replace("counts 3 45 1 6 6 2 ", "counts 3 45 1 6 6 0 "));
        t.due("wanted of 0", x.wanted(0, 0), 400);
        t.due("wanted of 7", x.wanted(7, 0), 0);
        t.due("seen", x.settings(NONE), 0);
        t.due("seen", x.forget(), 6);
        t.due("settings then", x.settings(NONE) > 0 ? 1 : 0, 1);
    }

    /** Three buckets, six laws, six times seen. */
    private static NightColander full() {
        NightColander x = Trial.withBuckets("runs 5", 50, 20, 5);
        for (int i = 1; i < 6; i++) {
            Trial.law(x, "runs " + i);
            x.seen(i, 400);
        }
        x.seen(0, 0);
        x.wanted(0, 400);
        x.wanted(7, 0);
        x.block(7, 3);
        x.pass();
        return x;
    }

    static void promise40WhatWasSeen() {
        NightColander x = new NightColander();
        x.ream(0, 0);
        x.seen(2, 15);
        x.image(0);
        x.forget();
        x.seen(5, 15);
        x.seen(5, 12);
        t.due("then", x.settings(NONE), 0);
        x.back(0);
        t.due("how many", x.settings(NONE), 512);
        t.due("of field 2", x.settings(0), 2000);
        x.forget();
        x.seen(2, 12);
        x.back(0);
        t.due("15, not 12", x.settings(0), 2000);
    }

    static void promise40SizesAndFields() {
        NightColander x = new NightColander();
        x.image(0);
        x.bucket(5, 5);
        x.image(1);
        x.back(0);
        x.bucket(9, 2);
        x.back(1);
        t.due("size", x.of(0, 0), 5);
        t.due("field", x.of(0, 2), 5);
        x.back(0);
        t.due("none", x.of(0, 0), NONE);
    }

    static void promise40LawsOfTheSameNumber() {
        NightColander x = new NightColander();
        x.image(0);
        Trial.law(x, "runs 5");
        x.force(0);
        x.image(1);
        x.back(0);
        Trial.law(x, "runs 9");
        x.force(0);
        t.due("the new one", x.hole(0, 0, 3), 9);
        x.back(1);
        t.due("the old one", x.hole(0, 0, 3), 5);
    }

    // "(IMAGES stay)"
    static void promise40ImagesStay() {
        NightColander x = new NightColander();
        x.turn(0, 1);
        x.image(0);
        for (int i = 0; i < 3; i++) {
            x.turn(0, 5);
            x.block(i, i);
            t.due("back", x.back(0), 0);
            t.due("turn", x.hole(0, 0, 2), 1);
            t.due("blocked", x.count(2), 0);
        }
        x.image(1);
        x.back(0);
        t.due("the other one, too", x.back(1), 0);
    }

    // "keep all but the TAPE"
    static void promise40TapeStays() {
        NightColander x = new NightColander();
        Trial.feed(x, "runs");
        x.image(0);
        Trial.feed(x, " 7");
        x.back(0);
        t.due("bytes", x.count(6), 6);
        t.due("as fed", x.law(), 0);
    }

    // "FAULT"
    static void promise40FaultStays() {
        NightColander x = new NightColander();
        x.image(0);
        Trial.law(x, "runs");
        x.image(1);
        x.back(0);
        t.due("fault", x.fault(), 4);
        Trial.law(x, "runs 1");
        x.back(1);
        t.due("none", x.fault(), NONE);
    }

    // "PEAS"
    static void promise40PeasStay() {
        NightColander x = new NightColander();
        x.image(0);
        Trial.feed(x, 9, 9);
        x.row();
        x.back(0);
        t.due("peas", x.peas(), 1);
    }

    // "where ORDERS stopped"
    static void promise40WhereOrdersStoppedStays() {
        NightColander x = new NightColander();
        x.image(0);
        Trial.orders(x, "pass;pass;block 9 of 9");
        x.back(0);
        t.due("stopped", x.stopped(), 2);
    }

    // "what can be undone (nothing, behind back())"
    static void promise40NothingCanBeUndone() {
        NightColander x = new NightColander();
        x.block(0, 0);
        x.image(0);
        x.back(0);
        t.due("how many", x.count(5), 0);
        t.due("none", x.undo(), -3);
        t.due("still blocked", x.count(2), 1);
        x.block(1, 1);
        x.back(1);
        t.due("behind a refused one", x.undo(), 0);
    }

    // "the latest YEARS"
    static void promise40LatestYearsStay() {
        NightColander x = new NightColander();
        x.image(0);
        x.years(5, 3);
        x.back(0);
        t.due("turn", x.drawn(0, 1), 3);
        x.image(0);
        x.years(5, 4);
        x.back(0);
        t.due("not as they were then", x.drawn(0, 1), 4);
    }

    // "how many calls were REFUSED .. (IMAGES do not keep that)"
    static void promise40RefusalsStay() {
        NightColander x = new NightColander();
        x.image(0);
        x.turn(8, 8);
        x.force(4);
        x.undo();
        x.row();
        x.back(0);
        t.due("-1", x.count(7), 1);
        t.due("-2", x.count(8), 1);
        t.due("-3", x.count(9), 1);
        t.due("-6", x.count(11), 1);
        t.due("status of back itself", x.status(), 0);
    }

    // "NONE for others."
    static void promise41TooSmall() {
        t.due("-1", new NightColander().count(-1), NONE);
        t.due("0", new NightColander().count(0), 0);
    }

    static void promise41TooLarge() {
        NightColander x = new NightColander();
        t.due("17", x.count(17), NONE);
        t.due("16", x.count(16), 1);
        for (int far : Trial.FAR) {
            t.due("far " + far, x.count(far), NONE);
        }
        t.due("is not refused", x.count(7) + x.status(), 0);
    }

    static void promise41AsFullAsCanBe() {
        NightColander x = Trial.withBuckets("runs 99", 99, 99, 99);
        for (int i = 1; i < 6; i++) {
            Trial.law(x, "runs 1");
        }
        for (int i = 0; i < 6; i++) {
            x.seen(0, 0);
        }
        for (int at = 0; at < 32; at++) {
            x.block(at % 8, at / 8);
        }
        for (int i = 0; i < 20; i++) {
            x.feed(0, 0, 0, 0, 0);
        }
        int[] due = {3, 0, 32, 6, 6, 16, 400};
        for (int what = 0; what < due.length; what++) {
            t.due("count " + what, x.count(what), due[what]);
        }
        x.force(5);
        t.due("the last law", x.count(12), 5);
        x.block(0, 0);
        x.block(0, 1);
        x.force(0);
        x.pass();
        t.due("levels", x.count(1), 99);
    }

    // "7 .. 11 how many calls were REFUSED by -1, -2, -3, -5, -6"
    static void promise41RefusedByMinusOne() {
        NightColander x = Trial.withBuckets("", 9);
        x.turn(4, 0);
        x.bucket(0, 0);
        x.wanted(8, 0);
        x.terms(4, 0);
        x.block(8, 0);
        x.ream(8, 0);
        x.set(0, 8);
        x.seen(8, 0);
        x.years(-1, 1);
        x.image(2);
        x.back(2);
        refused(x, 11, 0, 0, 0, 0);
    }

    static void promise41RefusedByMinusTwo() {
        NightColander x = new NightColander();
        x.force(0);
        x.set(0, 0);
        x.back(0);
        refused(x, 0, 3, 0, 0, 0);
    }

    static void promise41RefusedByMinusThree() {
        NightColander x = Trial.withBuckets("", 9);
        x.undo();
        x.bucket(9, 0);
        x.set(0, 0);
        for (int i = 0; i < 9; i++) {
            x.ream(0, 0);
        }
        Trial.orders(x, "block 9 of 9");
        x.terms(0, 999);
        x.pass();
        refused(x, 0, 0, 6, 0, 0);
    }

    static void promise41RefusedByMinusFive() {
        NightColander x = Trial.withBuckets("runs 1", 9, 9, 9);
        x.bucket(9, 5);
        for (int i = 0; i < 7; i++) {
            x.seen(0, 0);
        }
        for (int i = 1; i < 7; i++) {
            Trial.law(x, "runs 1");
        }
        refused(x, 0, 0, 0, 3, 0);
    }

    static void promise41RefusedByMinusSix() {
        NightColander x = new NightColander();
        x.row();
        x.law();
        x.orders();
        refused(x, 0, 0, 0, 0, 3);
    }

    // "An object is used for at most 512 calls"
    static void promise41AllCallsRefused() {
        NightColander x = new NightColander();
        for (int i = 0; i < 500; i++) {
            x.undo();
        }
        refused(x, 0, 0, 500, 0, 0);
    }

    private static void refused(NightColander x, int... due) {
        for (int i = 0; i < 5; i++) {
            t.due("count " + (7 + i), x.count(7 + i), due[i]);
        }
    }

    // What answers NONE is not REFUSED.
    static void promise41NoneIsNotRefused() {
        NightColander x = new NightColander();
        x.hole(9, 9, 9);
        x.of(9, 9);
        x.flow(9);
        x.end(9);
        x.when(9, 9);
        x.placed(0, 9);
        x.settings(-9);
        x.look(9);
        x.turned(9);
        x.cleared(9, 9, 9);
        x.drought(9);
        x.luck(9);
        x.together(9, 9);
        x.settled(9);
        x.few(0, 0);
        x.worth(9);
        x.drawn(9, 9);
        x.count(99);
        refused(x, 0, 0, 0, 0, 0);
        t.due("status", x.status(), 0);
    }

    // "0 if it was not, or ahead of any"
    static void promise42AheadOfAny() {
        NightColander x = new NightColander();
        t.due("new", x.status(), 0);
        x.flow(9);
        t.due("behind others", x.status(), 0);
    }

    /** Makes a call that is refused and one that is not; each must be told. */
    private static void told(String call, int refusedBy, NightColander refused, NightColander accepted) {
        t.due(call + " refused", refused.status(), refusedBy);
        t.due(call + " not refused", accepted.status(), 0);
    }

    private static NightColander refusedOnce() {
        NightColander x = Trial.withBuckets("", 9);
        x.row();
        return x;
    }

    private static NightColander acceptedOnce() {
        return Trial.withBuckets("", 9);
    }

    static void promise42Turn() {
        NightColander x = acceptedOnce();
        NightColander y = refusedOnce();
        x.turn(0, 8);
        y.turn(0, 0);
        told("turn", -1, x, y);
    }

    static void promise42Bucket() {
        NightColander x = acceptedOnce();
        NightColander y = refusedOnce();
        x.bucket(9, 0);
        y.bucket(9, 1);
        told("bucket", -3, x, y);
    }

    static void promise42Wanted() {
        NightColander x = acceptedOnce();
        NightColander y = refusedOnce();
        x.wanted(8, 0);
        y.wanted(7, 0);
        told("wanted", -1, x, y);
    }

    static void promise42Terms() {
        NightColander x = acceptedOnce();
        NightColander y = refusedOnce();
        x.terms(4, 0);
        y.terms(3, 0);
        told("terms", -1, x, y);
    }

    static void promise42Row() {
        NightColander x = acceptedOnce();
        NightColander y = refusedOnce();
        x.row();
        Trial.feed(y, 0);
        y.row();
        told("row", -6, x, y);
    }

    static void promise42Law() {
        NightColander x = acceptedOnce();
        NightColander y = refusedOnce();
        Trial.law(x, "bar");
        Trial.law(y, "bars");
        told("law", -6, x, y);
    }

    static void promise42Orders() {
        NightColander x = acceptedOnce();
        NightColander y = refusedOnce();
        Trial.orders(x, "set 0 at 0");
        Trial.orders(y, "set 0 at 1");
        told("orders", -3, x, y);
        Trial.orders(y, "set 0");
        t.due("a fault", y.status(), -6);
    }

    static void promise42Force() {
        NightColander x = acceptedOnce();
        NightColander y = refusedOnce();
        x.force(0);
        y.force(NONE);
        told("force", -2, x, y);
    }

    static void promise42Block() {
        NightColander x = acceptedOnce();
        NightColander y = refusedOnce();
        x.block(8, 0);
        y.block(7, 0);
        told("block", -1, x, y);
    }

    static void promise42Ream() {
        NightColander x = acceptedOnce();
        NightColander y = refusedOnce();
        x.ream(0, 4);
        y.ream(0, 3);
        told("ream", -1, x, y);
    }

    static void promise42Set() {
        NightColander x = acceptedOnce();
        NightColander y = refusedOnce();
        x.set(1, 3);
        y.set(0, 3);
        told("set", -2, x, y);
    }

    static void promise42Pass() {
        NightColander x = acceptedOnce();
        NightColander y = refusedOnce();
        x.terms(0, 999);
        x.pass();
        y.pass();
        told("pass", -3, x, y);
    }

    static void promise42Undo() {
        NightColander x = acceptedOnce();
        NightColander y = new NightColander();
        x.undo();
        y.block(0, 0);
        y.row();
        y.undo();
        told("undo", -3, x, y);
    }

    static void promise42Seen() {
        NightColander x = acceptedOnce();
        NightColander y = refusedOnce();
        for (int i = 0; i < 7; i++) {
            x.seen(0, 0);
        }
        y.seen(0, 0);
        told("seen", -5, x, y);
    }

    static void promise42Years() {
        NightColander x = acceptedOnce();
        NightColander y = refusedOnce();
        x.years(0, 0);
        y.years(0, 1);
        told("years", -1, x, y);
    }

    static void promise42Image() {
        NightColander x = acceptedOnce();
        NightColander y = refusedOnce();
        x.image(2);
        y.image(1);
        told("image", -1, x, y);
    }

    static void promise42Back() {
        NightColander x = acceptedOnce();
        NightColander y = acceptedOnce();
        x.back(0);
        y.image(0);
        y.row();
        y.back(0);
        told("back", -2, x, y);
    }

    // Calls that the sentence does not name leave it as it is.
    static void promise42OthersLeaveIt() {
        NightColander x = refusedOnce();
        x.hole(0, 0, 0);
        x.of(0, 0);
        x.flow(0);
        x.feed(0, 0, 0, 0, 0);
        x.end(0);
        x.peas();
        x.fault();
        x.stopped();
        x.when(0, 0);
        x.placed(1, 0);
        x.forget();
        x.settings(NONE);
        x.look(0);
        x.turned(NONE);
        x.cleared(0, 0, 0);
        x.drought(0);
        x.luck(0);
        x.together(0, 1);
        x.settled(0);
        x.few(1, 1);
        x.worth(NONE);
        x.drawn(0, 0);
        x.count(0);
        t.due("still", x.status(), -6);
        t.due("still", x.status(), -6);
    }
}
