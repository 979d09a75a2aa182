/** One method or more for each promise: ordinary inputs, the edges that the document names, wrong inputs. */
public final class PromisesTest {
    private static final int NONE = NightColander.NONE;
    private static final int[] WRONG = {-2, -1000000, Integer.MIN_VALUE, 1001, 100000, Integer.MAX_VALUE};
    private static final Trial t = new Trial("PromisesTest");

    public static void main(String[] args) throws ReflectiveOperationException {
        t.runNamed(PromisesTest.class, 1, 42);
        t.end();
    }

    static void promise01NewObject() {
        NightColander x = new NightColander();
        t.due("P1 NONE", NightColander.NONE, -1);
        for (int what = 0; what <= 11; what++) {
            t.due("P1 count " + what, x.count(what), 0);
        }
        t.due("P1 law in force", x.count(12), NONE);
        t.due("P1 hour", x.count(13), 0);
        t.due("P1 wet", x.count(14), 3);
        t.due("P1 mood", x.count(15), 0);
        t.due("P1 rust", x.count(16), 1);
        t.due("P1 peas", x.peas(), 0);
        t.due("P1 fault", x.fault(), NONE);
        t.due("P1 stopped", x.stopped(), NONE);
        t.due("P1 status", x.status(), 0);
        for (int r = 0; r < 4; r++) {
            for (int h = 0; h < 8; h++) {
                t.due("P1 bore", x.hole(r, h, 0), 1);
                t.due("P1 blocked", x.hole(r, h, 1), 0);
                t.due("P1 field", x.hole(r, h, 2), h);
                t.due("P1 runs", x.hole(r, h, 3), 3);
            }
        }
    }

    static void promise02Hole() {
        NightColander x = new NightColander();
        x.turn(2, 5);
        x.ream(6, 2);
        x.block(6, 2);
        t.due("P2 bore", x.hole(2, 6, 0), 2);
        t.due("P2 blocked", x.hole(2, 6, 1), 1);
        t.due("P2 field", x.hole(2, 6, 2), 3);
        t.due("P2 runs, blocked", x.hole(2, 6, 3), 0);
        x.block(6, 2);
        t.due("P2 runs", x.hole(2, 6, 3), 6);
        for (int w : WRONG) {
            t.due("P2 ring", x.hole(w, 0, 0), NONE);
            t.due("P2 hole", x.hole(0, w, 0), NONE);
            t.due("P2 what", x.hole(0, 0, w), NONE);
        }
        t.due("P2 ring 4", x.hole(4, 0, 0), NONE);
        t.due("P2 hole 8", x.hole(0, 8, 0), NONE);
        t.due("P2 what 4", x.hole(0, 0, 4), NONE);
        t.due("P2 ring -1", x.hole(-1, 0, 0), NONE);
        t.due("P2 is not refused", x.count(7), 0);
    }

    static void promise03Turn() {
        NightColander x = new NightColander();
        t.due("P3 was", x.turn(3, 7), 0);
        t.due("P3 was", x.turn(3, 2), 7);
        t.due("P3 field", x.hole(3, 7, 2), 1);
        t.due("P3 ring 4", x.turn(4, 0), -1);
        t.due("P3 ring -1", x.turn(-1, 0), -1);
        t.due("P3 t 8", x.turn(0, 8), -1);
        t.due("P3 t -1", x.turn(0, -1), -1);
        t.due("P3 refused", x.count(7), 4);
        t.due("P3 as it was", x.turn(3, 3), 2);
    }

    static void promise04Bucket() {
        NightColander x = new NightColander();
        t.due("P4 size 0", x.bucket(0, 0), -1);
        t.due("P4 size 100", x.bucket(100, 0), -1);
        t.due("P4 field 8", x.bucket(1, 8), -1);
        t.due("P4 field -1", x.bucket(1, -1), -1);
        t.due("P4 first", x.bucket(1, 7), 0);
        t.due("P4 taken", x.bucket(2, 7), -3);
        t.due("P4 second", x.bucket(99, 0), 1);
        t.due("P4 third", x.bucket(5, 3), 2);
        t.due("P4 taken ahead of room", x.bucket(5, 3), -3);
        t.due("P4 number ahead of all", x.bucket(0, 3), -1);
        t.due("P4 no room", x.bucket(5, 4), -5);
        t.due("P4 how many", x.count(0), 3);
        NightColander y = Trial.under("bars");
        t.due("P4 barred does not matter", y.bucket(5, 5), 0);
    }

    static void promise05Of() {
        NightColander x = Trial.under("leaks field+bucket;pays level*10+field;bars if field=bucket+6");
        x.bucket(7, 2);
        x.bucket(30, 4);
        t.due("P5 size", x.of(1, 0), 30);
        t.due("P5 level", x.of(1, 1), 0);
        t.due("P5 field", x.of(1, 2), 4);
        t.due("P5 leaks", x.of(1, 3), 5);
        t.due("P5 paid", x.of(1, 4), 4);
        t.due("P5 not barred", x.of(1, 11), 0);
        t.due("P5 barred", x.of(1, 12), 1);
        t.due("P5 barred", x.of(0, 11), 1);
        t.due("P5 what 13", x.of(1, 13), NONE);
        t.due("P5 what -1", x.of(1, -1), NONE);
        t.due("P5 no bucket", x.of(2, 0), NONE);
        t.due("P5 bucket -1", x.of(-1, 0), NONE);
        x.pass();
        t.due("P5 level behind a leak", x.of(1, 1), 7);
        t.due("P5 paid by level", x.of(1, 4), 74);
        for (int w : WRONG) {
            t.due("P5 bucket", x.of(w, 0), NONE);
            t.due("P5 what", x.of(0, w), NONE);
        }
    }

    static void promise06Wanted() {
        NightColander x = new NightColander();
        t.due("P6 was any", x.wanted(7, 400), NONE);
        t.due("P6 not refused", x.status(), 0);
        t.due("P6 was", x.wanted(7, 0), 400);
        t.due("P6 was", x.wanted(7, NONE), 0);
        t.due("P6 field 8", x.wanted(8, 0), -1);
        t.due("P6 refused", x.status(), -1);
        t.due("P6 field -1", x.wanted(-1, 0), -1);
        t.due("P6 401", x.wanted(0, 401), -1);
        t.due("P6 -2", x.wanted(0, -2), -1);
        t.due("P6 refused", x.count(7), 4);
    }

    static void promise07Flow() {
        NightColander x = new NightColander();
        t.due("P7 flow", x.flow(4), 12);
        x.block(4, 1);
        t.due("P7 blocked", x.flow(4), 9);
        x.ream(4, 3);
        t.due("P7 reamed", x.flow(4), 12);
        x.terms(1, 9);
        t.due("P7 wet", x.flow(4), 36);
        t.due("P7 field 8", x.flow(8), NONE);
        t.due("P7 field -1", x.flow(-1), NONE);
        NightColander y = Trial.under("runs 1000");
        t.due("P7 most", y.flow(0), 396);
    }

    static void promise08Terms() {
        NightColander x = new NightColander();
        int[] most = {999, 9, 9, 10};
        int[] first = {0, 3, 0, 1};
        for (int what = 0; what < 4; what++) {
            t.due("P8 was", x.terms(what, most[what]), first[what]);
            t.due("P8 too much", x.terms(what, most[what] + 1), -1);
            t.due("P8 below 0", x.terms(what, -1), -1);
            t.due("P8 is", x.count(13 + what), most[what]);
            t.due("P8 was", x.terms(what, 0), most[what]);
        }
        t.due("P8 what 4", x.terms(4, 0), -1);
        t.due("P8 what -1", x.terms(-1, 0), -1);
        t.due("P8 refused", x.count(7), 10);
    }

    static void promise09Feed() {
        NightColander x = new NightColander();
        x.feed(0x00010203, 0x040501FF, 0, 0, 0);
        t.due("P9 twenty bytes", x.count(6), 20);
        x.end(6);
        t.due("P9 highest byte first", x.row(), 2);
        t.due("P9 bore of (0, 1)", x.hole(0, 1, 0), 2);
        t.due("P9 bore of (3, 4)", x.hole(3, 4, 0), 5);
        for (int i = 1; i <= 20; i++) {
            t.due("P9 fed", x.feed(0x00010203, 0, 0, 0, -1), 20 * i);
        }
        t.due("P9 full", x.feed(0, 0, 0, 0, 0), NONE);
        t.due("P9 as it was", x.count(6), 400);
        x.end(381);
        t.due("P9 one too many", x.feed(0, 0, 0, 0, 0), NONE);
        x.end(380);
        t.due("P9 room again", x.feed(0, 0, 0, 0, 0), 400);
        t.due("P9 status", x.status(), 0);
        t.due("P9 not refused", x.count(7) + x.count(10), 0);
    }

    // The numbers of four bytes each follow one another on the tape.
    static void promise09NumbersInOrder() {
        NightColander x = new NightColander();
        x.feed(0x00000100, 0x01020002, 0x03000304, 0x01000501, 0x01060102);
        t.due("P9 bytes", x.row(), 6);
        int[] bores = {x.hole(0, 0, 0), x.hole(0, 1, 0), x.hole(0, 2, 0), x.hole(0, 3, 0), x.hole(1, 0, 0), x.hole(1, 1, 0)};
        for (int i = 0; i < bores.length; i++) {
            t.due("P9 bore " + i, bores[i], i + 1);
        }
    }

    static void promise10End() {
        NightColander x = new NightColander();
        t.due("P10 of nothing", x.end(0), 0);
        t.due("P10 more than nothing", x.end(1), NONE);
        for (int i = 0; i < 20; i++) {
            x.feed(0, 0, 0, 0, 0);
        }
        t.due("P10 too many", x.end(401), NONE);
        t.due("P10 below 0", x.end(-1), NONE);
        for (int w : WRONG) {
            t.due("P10 end " + w, x.end(w), NONE);
        }
        t.due("P10 as it was", x.count(6), 400);
        t.due("P10 all", x.end(400), 400);
        t.due("P10 some", x.end(381), 381);
        t.due("P10 bytes", x.count(6), 381);
        t.due("P10 no longer so many", x.end(382), NONE);
        t.due("P10 none", x.end(0), 0);
        t.due("P10 bytes", x.count(6), 0);
        t.due("P10 status", x.status(), 0);
        t.due("P10 not refused", x.count(7), 0);
        Trial.feed(x, "pass;pass;pass");
        x.end(9);
        t.due("P10 its first bytes", x.orders(), 2);
    }

    static void promise11Row() {
        NightColander x = new NightColander();
        t.due("P11 empty", x.row(), -6);
        x.block(7, 3);
        Trial.feed(x, 3, 7, 9, 0, 0, 0, 4, 0, 1, 0, 8, 1, 0, 1, 10, 255, 0, 0, 1, 2);
        t.due("P11 told", x.row(), 2);
        t.due("P11 bore", x.hole(3, 7, 0), 9);
        t.due("P11 not blocked", x.hole(3, 7, 1), 0);
        t.due("P11 bore 0", x.hole(0, 0, 0), 0);
        t.due("P11 nothing by a pea", x.hole(0, 1, 0), 1);
        t.due("P11 nothing by a pea at the end", x.hole(1, 2, 0), 1);
        t.due("P11 the tape", x.count(6), 0);
        t.due("P11 nothing can be undone", x.undo(), -3);
        t.due("P11 empty", x.row(), -6);
        x.block(0, 0);
        Trial.feed(x, 9);
        t.due("P11 a pea alone", x.row(), 0);
        t.due("P11 a pea alone is not refused", x.status(), 0);
        t.due("P11 a pea alone clears, too", x.count(5), 0);
        Trial.feed(x, 1, 1, 5, 1, 1, 6);
        t.due("P11 twice", x.row(), 2);
        t.due("P11 the later one", x.hole(1, 1, 0), 6);
    }

    static void promise12Peas() {
        NightColander x = new NightColander();
        t.due("P12 ahead of any", x.peas(), 0);
        x.row();
        t.due("P12 ahead of any that was not refused", x.peas(), 0);
        Trial.feed(x, 3, 7, 9, 0, 0, 0, 4, 0, 1, 0, 8, 1, 0, 1, 10, 255, 0, 0, 1, 2);
        x.row();
        t.due("P12 five", x.peas(), 5);
        x.row();
        t.due("P12 of the latest not refused", x.peas(), 5);
        Trial.feed(x, 9);
        x.row();
        t.due("P12 one within which the tape ends", x.peas(), 1);
        Trial.feed(x, 1, 1, 5, 1, 1, 6);
        x.row();
        t.due("P12 none", x.peas(), 0);
    }

    static void promise13Law() {
        NightColander x = new NightColander();
        for (int i = 0; i < 6; i++) {
            t.due("P13 number", Trial.law(x, "runs " + i), i);
            t.due("P13 the tape", x.count(6), 0);
            t.due("P15 none", x.fault(), NONE);
        }
        t.due("P13 laws", x.count(4), 6);
        t.due("P14 a fault", Trial.orders(x, "pass pass"), -6);
        t.due("P13 no room", Trial.law(x, "runs"), -5);
        t.due("P13 the tape, too", x.count(6), 0);
        t.due("P15 not read", x.fault(), 5);
        t.due("P13 no room, empty", x.law(), -5);
        t.due("P13 in force", x.force(5), NONE);
        t.due("P13 runs", x.hole(0, 0, 3), 5);
    }

    private static void fault(String text, int place) {
        NightColander x = new NightColander();
        t.due("P13 '" + text + "'", Trial.law(x, text), place == NONE ? 0 : -6);
        t.due("P15 '" + text + "'", x.fault(), place);
        t.due("P13 tape of '" + text + "'", x.count(6), 0);
        t.due("P13 laws of '" + text + "'", x.count(4), place == NONE ? 1 : 0);
    }

    static void promise13Faults() {
        fault("", 0);
        fault("   ", 3);
        fault("runs", 4);
        fault("runs  ", 6);
        fault("runs 1;", 7);
        fault("runs 1;;runs 1", 7);
        fault(";runs 1", 0);
        fault("  walks 1", 2);
        fault("Runs 1", 0);
        fault("runs 1 if", 9);
        fault("runs1if1<2", NONE);
        fault("runs 1 runs 2", 7);
        fault("bars", NONE);
        fault("bars;bars if 1=1", NONE);
        fault("bars 1", 5);
        fault("bars if 1", 9);
        fault("bars if 1=", 10);
        fault("bars if 1==1", 10);
        fault("bars if 1=1=1", 11);
        fault("bars if (1)=1", 10);
        fault("bars if [1]=1", NONE);
        fault("bars if ((1=1)", 14);
        fault("bars if (1=1))", 13);
        fault("bars if [1+2=3", 12);
        fault("bars if (1=1]", 12);
        fault("bars if not 1=1 and not not (2=2 or 3<4)", NONE);
        fault("bars if 1=1 and or 2=2", 16);
        fault("bars if 1=1 not 2=2", 12);
        fault("runs -1", 5);
        fault("runs 0-1", NONE);
        fault("runs 1+", 7);
        fault("runs 1*+2", 7);
        fault("runs 1000", NONE);
        fault("runs 1001", 5);
        fault("runs 00000000000000001000", NONE);
        fault("runs 4294967297", 5);
        fault("runs 99999999999999999999", 5);
        fault("runs ring+hole+bore+field+bucket+level+hour+wet+mood", NONE);
        fault("runs done", 5);
        fault("runs wets", 5);
        fault("runs we", 5);
        fault("runs wetz", 5);
        fault("runs weta", 5);
        fault("runs 1`", 6);
        fault("runs 1{", 6);
        fault("runs 1:", 6);
        fault("runs 1 times 2", 7);
        fault("runs\t1", 4);
        fault("runs 1\n", 6);
        fault("block 1 of 2", 0);
        fault("runs 1 if 2 < 3 or", 18);
        fault("runs \u00e9", 5);
    }

    private static String times(String text, int often) {
        return text.repeat(often);
    }

    static void promise13Limits() {
        String twelve = "bars" + times(";bars", 11);
        fault(twelve, NONE);
        fault(twelve + ";", 60);
        fault(twelve + "; bars", 61);
        fault(twelve + ";;", 60);
        fault(twelve + " 1", 60);
        String fifty = "runs 1" + times("+1", 49);
        fault(fifty, NONE);
        fault(fifty + "+1", 105);
        fault(fifty + ";bars if hour", 113);
        fault(fifty + ";bars", NONE);
        fault(fifty + "+[", 106);
        fault(fifty + "+[hour", 106);
        fault("runs " + times("[", 8) + "1" + times("]", 8), NONE);
        fault("runs " + times("[", 9) + "1" + times("]", 9), 13);
        fault("bars if " + times("(", 8) + "1=1" + times(")", 8), NONE);
        fault("bars if " + times("(", 9) + "1=1" + times(")", 9), 16);
        fault("bars if ((((([[[1]]]=1)))))", NONE);
        fault("bars if ((((([[[[1]]]]=1)))))", 16);
        fault("bars if (((((1=[[[[1", 18);
        fault("runs " + times("[1]+", 20) + "[1]", NONE);
        fault("bars if " + times("not ", 97) + "1=1", NONE);
        fault("bars if 1" + times(" ", 391), 400);
        t.due("nots", Trial.under("runs 7 if " + times("not ", 95) + "1=1").hole(0, 0, 3), 3);
        t.due("nots", Trial.under("runs 7 if " + times("not ", 94) + "1=1").hole(0, 0, 3), 7);
    }

    private static void runs(String sum, int due) {
        t.due("P13 P2 runs " + sum, Trial.under("runs " + sum).hole(2, 5, 3), due);
    }

    private static void so(String test, boolean due) {
        t.due("P13 P2 runs 50 if " + test, Trial.under("runs 50 if " + test).hole(2, 5, 3), due ? 50 : 3);
    }

    static void promise13SumsAndTests() {
        runs("7", 7);
        runs("99", 99);
        runs("100", 99);
        runs("0-5", 0);
        runs("2+3*4", 14);
        runs("[2+3]*4", 20);
        runs("20-5-3", 12);
        runs("100/7/2", 7);
        runs("100%7*3", 6);
        runs("50+[0-7]/2", 47);
        runs("50+[0-7]%3", 49);
        runs("50+7%[0-3]", 51);
        runs("1/0", 3);
        runs("1%0", 3);
        runs("0*[1/0]", 3);
        runs("1000*1000*1000/1000/1000/20", 50);
        runs("[1000*1000*1000+1]/1000", 3);
        runs("[0-1000*1000*1000]/1000+1000*1000+5", 5);
        runs("1000*1000*1000*10/1000/1000/1000", 3);
        runs("ring*10+hole", 25);
        runs("field*10+bore", 51);
        runs("50+bucket+level", 48);
        runs("hour*50+wet*10+mood", 30);
        so("1<2", true);
        so("2<2", false);
        so("2>1", true);
        so("2>2", false);
        so("2=2", true);
        so("2=3", false);
        so("not 2=3", true);
        so("not not 2=3", false);
        so("1=1 or 1=2 and 1=3", true);
        so("(1=1 or 1=2) and 1=3", false);
        so("not 1=2 and 1=2", false);
        so("not (1=2 and 1=2)", true);
        so("1=1 or 1/0=1", true);
        so("1/0=1 or 1=1", false);
        so("1=2 or 1/0=1", false);
        so("1=2 or 1/0=1 or 1=1", false);
        so("not (1=2 or 1/0=1)", false);
        so("not (1=2 and 1/0=1)", true);
        so("1=2 and 1/0=1 or 1=1", true);
        so("1=1 and 1/0=1 or 1=1", false);
        so("1=1 or 1/0=1 and 1/0=2", true);
        so("not 1/0=1", false);
        so("1=2 and 1/0=1 and 1=1 or 2=2", true);
        so("1=1 or 1=1 or 1/0=1", true);
        so("1000*1000*1000=1000*1000*1000", true);
        so("1000*1000*1000+1>1", false);
    }

    static void promise13ClausesThatHold() {
        NightColander x = Trial.under("runs 1;runs 2 if hole=1;runs 1/0 if hole=1;runs 4 if 1/0=1;runs 5 if hole=2;leaks 20;leaks 4 if level<5;pays 1000;pays 7 if field<3;bars if bucket=0 and field=6;bars if 1/0=1;bars if field=7");
        t.due("II the last that holds", x.hole(0, 0, 3), 1);
        t.due("II the last that is not broken", x.hole(0, 1, 3), 2);
        t.due("II the last", x.hole(0, 2, 3), 5);
        x.bucket(50, 1);
        x.bucket(50, 5);
        t.due("II leaks", x.of(0, 3), 4);
        t.due("II pays", x.of(0, 4), 7);
        t.due("II pays nearest", x.of(1, 4), 99);
        t.due("II bars", x.of(0, 11), 1);
        t.due("II bars", x.of(1, 11), 0);
        t.due("II bars", x.of(1, 12), 1);
        t.due("II bars", x.of(1, 5), 0);
        t.due("caught", x.pass(), 8 + 4);
        t.due("II leaks as its level is then", x.of(0, 1), 0);
        NightColander y = Trial.under("leaks ring+hole+bore+8;pays ring+hole+bore+8;bars if ring=0-1 and hole=0-1 and bore=0-1 and field=2 and level=0");
        y.bucket(9, 0);
        t.due("II words of leaks", y.of(0, 3), 5);
        t.due("II words of pays", y.of(0, 4), 5);
        t.due("II words of bars", y.of(0, 7), 1);
        t.due("II words of bars", y.of(0, 6), 0);
        NightColander z = Trial.under("leaks 0-3;pays 0-3");
        z.bucket(9, 0);
        t.due("II leaks nearest", z.of(0, 3), 0);
        t.due("II pays nearest", z.of(0, 4), 0);
    }

    static void promise14Orders() {
        NightColander x = new NightColander();
        x.bucket(99, 0);
        t.due("P14 run", Trial.orders(x, "pass times 3;block 1+1 of 3;ream 2*3 of 0 times 2;set 0 at 5"), 7);
        t.due("P14 the tape", x.count(6), 0);
        t.due("P14 hour", x.count(13), 3);
        t.due("P14 level", x.of(0, 1), 36);
        t.due("P14 blocked", x.hole(3, 2, 1), 1);
        t.due("P14 bore", x.hole(0, 6, 0), 3);
        t.due("P14 field", x.of(0, 2), 5);
        t.due("P14 can be undone", x.count(5), 7);
        t.due("P15 none", x.fault(), NONE);
        t.due("P16 none", x.stopped(), NONE);
        t.due("P14 none run", Trial.orders(x, "pass times 20 if 1=2;pass if 1/0=1;block 1/0 of 9 if not 1/0=1"), 0);
        t.due("P14 none run is not refused", x.status(), 0);
        NightColander y = new NightColander();
        y.bucket(30, 0);
        t.due("P14 latest", Trial.orders(y, "block 0 of 0 if latest=0-1;pass;block 1 of 0 if latest=9;pass;block 2 of 0 if latest=12;pass times 5 if caught<30"), 6);
        t.due("P14 level", y.of(0, 1), 30);
        t.due("P14 latest in this text", Trial.orders(y, "block 3 of 0 if latest=0-1 and done=0;block 4 of 0 if done=1"), 2);
        NightColander z = new NightColander();
        z.turn(0, 6);
        z.turn(3, 1);
        z.bucket(9, 7);
        t.due("P14 words", Trial.orders(z, "block turn 0 of turn 3;ream level 0+2 of 0-level 1;ream flow 0/4 of flow 7-12;ream hour of 0"), 4);
        t.due("P14 turn", z.hole(1, 6, 1), 1);
        t.due("P14 level", z.hole(1, 2, 0), 2);
        t.due("P14 flow", z.hole(0, 3, 0), 2);
        t.due("P14 hour", z.hole(0, 0, 0), 2);
        t.due("P14 each time its if", Trial.orders(z, "pass times 20 if hour<7"), 7);
        t.due("P14 done goes on", Trial.orders(z, "ream done of 0 times 3;ream done-1 of 1"), 4);
        t.due("P14 done", z.hole(0, 2, 0), 2);
        t.due("P14 done", z.hole(1, 2, 0), 3);
    }

    private static void stop(NightColander x, String text, int clause) {
        int hour = x.count(13);
        int levels = x.count(1);
        int blocked = x.count(2);
        int kept = x.count(5);
        t.due("P14 '" + text + "'", Trial.orders(x, text), -3);
        t.due("P16 '" + text + "'", x.stopped(), clause);
        t.due("P15 '" + text + "'", x.fault(), NONE);
        t.due("P14 status", x.status(), -3);
        t.due("P14 hour as ahead", x.count(13), hour);
        t.due("P14 levels as ahead", x.count(1), levels);
        t.due("P14 blocked as ahead", x.count(2), blocked);
        t.due("P14 undo as ahead", x.count(5), kept);
        t.due("P14 tape", x.count(6), 0);
    }

    static void promise14OneCannotBe() {
        NightColander x = new NightColander();
        x.bucket(99, 0);
        x.bucket(99, 1);
        x.ream(3, 3);
        x.block(5, 1);
        x.pass();
        stop(x, "pass;block 8 of 0", 1);
        stop(x, "block 0-1 of 0", 0);
        stop(x, "block 0 of 4", 0);
        stop(x, "block 1/0 of 0", 0);
        stop(x, "block 0 of 1000*1000*1000*2", 0);
        stop(x, "pass times 20;ream 0 of 0 times 9", 1);
        stop(x, "set 2 at 3", 0);
        stop(x, "set 0 at 8", 0);
        stop(x, "set 0 at 0", 0);
        stop(x, "set 0 at 1", 0);
        stop(x, "set 0 at 2;set 1 at 2", 1);
        t.due("P14 one refusal a call", x.count(9), 11);
        t.due("P14 none of the others", x.count(7) + x.count(8), 0);
        t.due("P14 what can be undone is as ahead", x.undo(), 3);
        t.due("P14 what can be undone is as ahead", x.undo(), 0);
        t.due("P14 blocked", x.hole(1, 5, 1), 0);
        t.due("P14 what can be undone is as ahead", x.undo(), 1);
        t.due("P14 bore", x.hole(3, 3, 0), 1);
        x.terms(0, 990);
        stop(x, "pass times 10", 0);
        t.due("P16 stays", x.stopped(), 0);
        t.due("P14 fault", Trial.orders(x, "pass times 9 8"), -6);
        t.due("P16 none by a fault", x.stopped(), NONE);
        t.due("P14 to the last hour", Trial.orders(x, "pass times 9"), 9);
        t.due("P14 hour", x.count(13), 999);
        t.due("P14 not at the last", Trial.orders(x, "pass times 20 if hour<999"), 0);
    }

    private static void orderFault(String text, int place) {
        NightColander x = new NightColander();
        int answer = Trial.orders(x, text);
        t.due("P14 '" + text + "'", answer == -6 ? 1 : 0, place == NONE ? 0 : 1);
        t.due("P15 '" + text + "'", x.fault(), place);
        t.due("P14 tape of '" + text + "'", x.count(6), 0);
    }

    static void promise14Faults() {
        orderFault("", 0);
        orderFault("  ", 2);
        orderFault("runs 1", 0);
        orderFault("pass 1", 5);
        orderFault("pass;", 5);
        orderFault("block 1 at 2", 8);
        orderFault("set 1 of 2", 6);
        orderFault("ream 1 of", 9);
        orderFault("pass times", 10);
        orderFault("pass times 0", 11);
        orderFault("pass times 21", 11);
        orderFault("pass times 20", NONE);
        orderFault("pass times 020", NONE);
        orderFault("pass times hour", 11);
        orderFault("pass times 1+1", 12);
        orderFault("pass if 1=1 times 2", 12);
        orderFault("pass times 2 if 1=1", NONE);
        orderFault("pass times 2 times 2", 13);
        orderFault("pass if turn 3=level 2+flow 7", NONE);
        orderFault("pass if turn 4=1", 13);
        orderFault("pass if level 3=1", 14);
        orderFault("pass if flow 8=1", 13);
        orderFault("pass if turn=1", 12);
        orderFault("pass if turn hour=1", 13);
        orderFault("pass if turn [1]=1", 13);
        orderFault("pass if turn", 12);
        orderFault("pass if wet=1", 8);
        orderFault("pass if ring=1", 8);
        orderFault("pass if done=latest and caught=hour", NONE);
        String fifty = "pass if turn 1" + times("+turn 1", 48) + "=1";
        orderFault(fifty, NONE);
        orderFault(fifty + ";pass times 20;pass", NONE);
        orderFault(fifty + ";block 1 of 1", fifty.length() + 7);
        orderFault(fifty + " or turn 9", fifty.length() + 4);
        orderFault("pass if " + times("(", 8) + "1=1" + times(")", 8), NONE);
        orderFault("pass if " + times("(", 9) + "1=1" + times(")", 9), 16);
        orderFault("block " + times("[", 8) + "1" + times("]", 8) + " of " + times("[", 8) + "1" + times("]", 8), NONE);
        orderFault("block " + times("[", 9) + "1" + times("]", 9) + " of 1", 14);
        orderFault("block 1 of " + times("[", 9) + "1" + times("]", 9), 19);
        String twelve = "pass" + times(";pass", 11);
        orderFault(twelve, NONE);
        orderFault(twelve + ";pass", 60);
    }

    static void promise15Fault() {
        NightColander x = new NightColander();
        t.due("P15 ahead of any", x.fault(), NONE);
        Trial.law(x, "runs 1 2");
        t.due("P15 of law()", x.fault(), 7);
        Trial.orders(x, "  walk");
        t.due("P15 of orders()", x.fault(), 2);
        Trial.orders(x, "block 9 of 9");
        t.due("P15 none in one that can't be", x.fault(), NONE);
        Trial.law(x, "runs 1 if");
        t.due("P15 the end's", x.fault(), 9);
        Trial.law(x, "runs 1");
        t.due("P15 none", x.fault(), NONE);
        for (int i = 1; i < 6; i++) {
            Trial.law(x, "runs 1");
        }
        Trial.orders(x, "pass pass");
        t.due("P15 no room", Trial.law(x, "runs runs"), -5);
        t.due("P15 of the latest that read a text", x.fault(), 5);
        Trial.feed(x, 1, 1, 1);
        x.row();
        t.due("P15 a row leaves it", x.fault(), 5);
    }

    static void promise16Stopped() {
        NightColander x = new NightColander();
        t.due("P16 ahead of any", x.stopped(), NONE);
        Trial.orders(x, "pass;pass;block 8 of 0;pass");
        t.due("P16 the third", x.stopped(), 2);
        Trial.law(x, "runs runs");
        t.due("P16 a law leaves it", x.stopped(), 2);
        Trial.orders(x, "ream 0 of 0 times 9;pass");
        t.due("P16 the first, at its ninth time", x.stopped(), 0);
        Trial.orders(x, "pass");
        t.due("P16 none", x.stopped(), NONE);
        Trial.orders(x, "pass;pass;pass;pass;pass;pass;pass;pass;pass;pass;pass;set 0 at 0");
        t.due("P16 the twelfth", x.stopped(), 11);
        Trial.orders(x, "pass pass");
        t.due("P16 none by a fault", x.stopped(), NONE);
    }

    static void promise17Force() {
        NightColander x = new NightColander();
        t.due("P17 no law", x.force(0), -2);
        t.due("P17 none", x.force(NONE), NONE);
        t.due("P17 not refused", x.status(), 0);
        Trial.law(x, "runs 5");
        Trial.law(x, "runs 6");
        t.due("P17 was", x.force(1), NONE);
        t.due("P17 runs", x.hole(0, 0, 3), 6);
        t.due("P17 was", x.force(0), 1);
        t.due("P17 2", x.force(2), -2);
        t.due("P17 -2", x.force(-2), -2);
        t.due("P17 in force", x.count(12), 0);
        t.due("P17 was", x.force(NONE), 0);
        t.due("P17 runs", x.hole(0, 0, 3), 3);
        t.due("P17 refused", x.count(8), 3);
    }

    static void promise18Block() {
        NightColander x = new NightColander();
        t.due("P18", x.block(7, 3), 1);
        t.due("P18 blocked", x.hole(3, 7, 1), 1);
        t.due("P18", x.block(7, 3), 0);
        t.due("P18 hole 8", x.block(8, 0), -1);
        t.due("P18 hole -1", x.block(-1, 0), -1);
        t.due("P18 ring 4", x.block(0, 4), -1);
        t.due("P18 ring -1", x.block(0, -1), -1);
        t.due("P18 kept", x.count(5), 2);
    }

    static void promise19Ream() {
        NightColander x = new NightColander();
        for (int bore = 2; bore <= 9; bore++) {
            t.due("P19", x.ream(2, 1), bore);
        }
        t.due("P19 9", x.ream(2, 1), -3);
        t.due("P19 hole 8", x.ream(8, 1), -1);
        t.due("P19 ring 4", x.ream(0, 4), -1);
        t.due("P19 below 0", x.ream(-1, -1), -1);
        t.due("P19 bore", x.hole(1, 2, 0), 9);
        t.due("P19 kept", x.count(5), 8);
        x.block(0, 0);
        t.due("P19 blocked, too", x.ream(0, 0), 2);
    }

    static void promise20Set() {
        NightColander x = Trial.under("bars if field=bucket+4");
        t.due("P20 no bucket", x.set(0, 0), -2);
        t.due("P20 field ahead of bucket", x.set(0, 8), -1);
        x.bucket(9, 0);
        x.bucket(9, 1);
        t.due("P20 field -1", x.set(0, -1), -1);
        t.due("P20 no bucket 2", x.set(2, 3), -2);
        t.due("P20 its own", x.set(0, 0), -3);
        t.due("P20 another's", x.set(0, 1), -3);
        t.due("P20 barred", x.set(0, 4), -3);
        t.due("P20 barred", x.set(1, 5), -3);
        t.due("P20 from", x.set(0, 5), 0);
        t.due("P20 from", x.set(0, 2), 5);
        t.due("P20 free again", x.set(1, 0), 1);
        t.due("P20 kept", x.count(5), 3);
        for (int w : WRONG) {
            t.due("P20 bucket", x.set(w, 7), -2);
        }
    }

    static void promise21Pass() {
        NightColander x = Trial.under("runs hour+1;leaks level/4+hour");
        x.bucket(99, 0);
        x.bucket(10, 3);
        t.due("P21 caught", x.pass(), 8);
        t.due("P21 leaks of the level then", x.of(0, 1), 3);
        t.due("P21 hour", x.count(13), 1);
        for (int r = 0; r < 4; r++) {
            t.due("P21 turned", x.hole(r, 0, 2), r + 1);
        }
        t.due("P21 as far as it has room", x.pass(), 8 + 7);
        t.due("P21 level", x.of(0, 1), 11 - 2 - 1);
        t.due("P21 level", x.of(1, 1), 10 - 2 - 1);
        x.terms(0, 998);
        t.due("P21 next to the last", x.pass() >= 0 ? 1 : 0, 1);
        t.due("P21 0 at least", x.of(1, 1), 1);
        t.due("P21 the last", x.pass(), -3);
        t.due("P21 hour", x.count(13), 999);
        NightColander y = Trial.under("leaks 9");
        y.bucket(5, 0);
        t.due("P21 caught all the same", y.pass(), 5);
        t.due("P21 0 at least", y.of(0, 1), 0);
        NightColander z = new NightColander();
        t.due("P21 without buckets", z.pass(), 0);
        t.due("P21 turned", z.hole(3, 7, 2), 3);
    }

    static void promise22Undo() {
        NightColander x = new NightColander();
        t.due("P22 none", x.undo(), -3);
        x.bucket(20, 0);
        x.bucket(20, 6);
        x.block(1, 2);
        x.ream(1, 2);
        x.set(0, 5);
        x.pass();
        x.pass();
        x.block(1, 2);
        t.due("P22 how many", x.count(5), 6);
        t.due("P22", x.undo(), 0);
        t.due("P22 blocked", x.hole(2, 1, 1), 1);
        t.due("P22", x.undo(), 3);
        t.due("P22 level", x.of(0, 1), 12);
        t.due("P22 hour", x.count(13), 1);
        t.due("P22 turn", x.hole(3, 0, 2), 4);
        t.due("P22", x.undo(), 3);
        t.due("P22 level", x.count(1), 0);
        t.due("P22 turn", x.hole(3, 0, 2), 0);
        t.due("P22", x.undo(), 2);
        t.due("P22 field", x.of(0, 2), 0);
        t.due("P22", x.undo(), 1);
        t.due("P22 bore", x.hole(2, 1, 0), 1);
        t.due("P22 how many", x.count(5), 1);
        t.due("P22", x.undo(), 0);
        t.due("P22 blocked", x.count(2), 0);
        t.due("P22 none", x.undo(), -3);
        x.block(0, 0);
        x.turn(0, 9);
        x.bucket(1, 0);
        x.terms(9, 9);
        x.row();
        t.due("P22 refused ones leave it", x.count(5), 1);
        x.force(NONE);
        x.wanted(0, 1);
        x.seen(0, 1);
        x.forget();
        x.years(1, 9);
        x.image(0);
        Trial.law(x, "bars");
        t.due("P22 others leave it", x.count(5), 1);
        x.turn(0, 0);
        t.due("P22 behind turn()", x.undo(), -3);
        x.block(0, 0);
        x.bucket(3, 3);
        t.due("P22 behind bucket()", x.undo(), -3);
        x.block(0, 0);
        x.terms(3, 3);
        t.due("P22 behind terms()", x.undo(), -3);
        x.block(0, 0);
        Trial.feed(x, 1, 1, 1);
        x.row();
        t.due("P22 behind row()", x.undo(), -3);
        x.block(0, 0);
        x.back(0);
        t.due("P22 behind back()", x.undo(), -3);
    }

    static void promise22KeepsSixteen() {
        NightColander x = new NightColander();
        x.bucket(99, 0);
        for (int i = 0; i < 20; i++) {
            x.pass();
        }
        t.due("P22 16 are kept", x.count(5), 16);
        for (int i = 0; i < 16; i++) {
            t.due("P22", x.undo(), 3);
        }
        t.due("P22 hour", x.count(13), 4);
        t.due("P22 level", x.of(0, 1), 48);
        t.due("P22 no more", x.undo(), -3);
        for (int i = 0; i < 16; i++) {
            x.block(i % 8, i / 8);
        }
        t.due("P14 stops behind twenty", Trial.orders(x, "pass times 20;set 0 at 0"), -3);
        t.due("P22 as ahead", x.count(5), 16);
        for (int i = 0; i < 16; i++) {
            t.due("P22 as ahead", x.undo(), 0);
        }
        t.due("P22 as ahead", x.count(2), 0);
    }

    static void promise23When() {
        NightColander x = new NightColander();
        t.due("P23 now", x.when(0, 12), 0);
        t.due("P23 never", x.when(0, 13), NONE);
        x.ream(3, 1);
        t.due("P23 ring 1 is above 7 in 2 hours", x.when(7, 13), 2);
        t.due("P23 above 1 in 3", x.when(1, 15), 3);
        t.due("P23 v 401", x.when(0, 401), NONE);
        t.due("P23 v -1", x.when(0, -1), NONE);
        t.due("P23 field 8", x.when(8, 0), NONE);
        t.due("P23 field -1", x.when(-1, 0), NONE);
        t.due("P23 v 0", x.when(0, 0), 0);
        t.due("P23 nothing is done", x.count(13), 0);
        NightColander y = Trial.under("runs hour-950");
        y.terms(0, 990);
        t.due("P23 beyond hour 999", y.when(0, 396), 59);
        y.terms(0, 989);
        t.due("P23 in 60", y.when(0, 396), 60);
        y.terms(0, 988);
        t.due("P23 not in 60", y.when(0, 396), NONE);
        t.due("P23 400", y.when(0, 400), NONE);
    }

    static void promise24Placed() {
        NightColander x = new NightColander();
        t.due("P24 without buckets", x.placed(9, 0), 0);
        t.due("P24 no bucket", x.placed(9, 1), NONE);
        x.bucket(99, 7);
        x.bucket(99, 6);
        x.bucket(4, 5);
        t.due("P24 caught", x.placed(2, 0), 52);
        t.due("P24 first row", x.placed(2, 1), 0);
        t.due("P24 first row", x.placed(2, 2), 1);
        t.due("P24 first row", x.placed(2, 3), 2);
        t.due("P24 what 4", x.placed(2, 4), NONE);
        t.due("P24 what -1", x.placed(2, -1), NONE);
        t.due("P24 n 0", x.placed(0, 0), NONE);
        t.due("P24 n 10", x.placed(10, 0), NONE);
        t.due("P24 n 9", x.placed(9, 0), 202);
        t.due("P24 nothing is done", x.of(0, 2), 7);
        NightColander y = Trial.under("runs 10 if field=3;runs 1 if not field=3;bars if bucket=0 and field<5;bars if bucket=1 and field=7;leaks 9 if bucket=1 and field=3");
        y.bucket(5, 7);
        y.bucket(8, 3);
        t.due("P24 caught", y.placed(1, 0), 4 + 8);
        t.due("P24 not barred", y.placed(1, 1), 5);
        t.due("P24 on 3", y.placed(1, 2), 3);
        t.due("P24 leaks in between", y.placed(2, 0), 5 + 16);
        Trial.law(y, "bars if bucket=0");
        y.force(1);
        t.due("P24 it can't be", y.placed(1, 0), NONE);
        t.due("P24 it can't be", y.placed(1, 2), NONE);
        Trial.law(y, "bars if not field=4");
        y.force(2);
        t.due("P24 one field for two", y.placed(1, 0), NONE);
        NightColander z = Trial.under("runs 9 if ring=1 and hole=2;runs 0 if not (ring=1 and hole=2)");
        z.bucket(99, 0);
        z.bucket(99, 1);
        t.due("P24 by rings that turn", z.placed(4, 0), 18);
        t.due("P24 field 0 in 3 hours", z.placed(4, 1), 0);
        t.due("P24 field 2 now", z.placed(4, 2), 2);
    }

    static void promise25Seen() {
        NightColander x = new NightColander();
        t.due("P25 field 8", x.seen(8, 0), -1);
        t.due("P25 field -1", x.seen(-1, 0), -1);
        t.due("P25 -1", x.seen(0, -1), -1);
        t.due("P25 401", x.seen(0, 401), -1);
        for (int i = 1; i <= 6; i++) {
            t.due("P25 how often", x.seen(7, 12), i);
        }
        t.due("P25 no room", x.seen(0, 12), -5);
        t.due("P25 number ahead of room", x.seen(8, 12), -1);
        t.due("P25 count", x.count(3), 6);
        for (int w : WRONG) {
            t.due("P25 field " + w, x.seen(w, 0), -1);
            t.due("P25 threads " + w, x.seen(0, w), -1);
        }
        t.due("P25 as it was", x.count(3), 6);
    }

    static void promise26Forget() {
        NightColander x = new NightColander();
        t.due("P26 nothing", x.forget(), 0);
        x.seen(0, 5);
        x.seen(1, 5);
        t.due("P26 can't be", x.settings(NONE), 0);
        t.due("P26 refused", x.seen(8, 5), -1);
        t.due("P26 how often", x.forget(), 2);
        t.due("P26 count", x.count(3), 0);
        t.due("P26 all again", x.settings(NONE), 4096);
        t.due("P26 nothing then", x.forget(), 0);
        t.due("P26 status as it was", x.status(), -1);
        t.due("P26 room again", x.seen(2, 12), 1);
    }

    static void promise27Settings() {
        NightColander x = new NightColander();
        t.due("P27 all", x.settings(NONE), 4096);
        t.due("P27 8th", x.settings(8), 10);
        t.due("P27 last", x.settings(4095), 7777);
        t.due("P27 none", x.settings(4096), NONE);
        t.due("P27 -2", x.settings(-2), NONE);
        for (int w : WRONG) {
            t.due("P27", x.settings(w), w == 1001 ? 1751 : NONE);
        }
        x.ream(0, 0);
        x.block(1, 3);
        x.seen(2, 15);
        t.due("P27 ring 0 at 2, ring 3 not at 1", x.settings(NONE), 8 * 8 * 7);
        t.due("P27 first", x.settings(0), 2000);
        t.due("P27 second", x.settings(1), 2002);
        t.due("P27 last", x.settings(447), 2777);
        t.due("P27 no more", x.settings(448), NONE);
        x.seen(3, 9);
        t.due("P27 ring 3 at 2", x.settings(NONE), 64);
        t.due("P27 first", x.settings(0), 2002);
        t.due("P27 ninth", x.settings(8), 2102);
        x.seen(3, 12);
        t.due("P27 against itself", x.settings(NONE), 0);
        t.due("P27 none", x.settings(0), NONE);
        t.due("P27 turns stay", x.hole(0, 0, 2), 0);
        NightColander y = Trial.under("runs hour if field=0;runs 0 if field>0");
        y.terms(0, 3);
        y.seen(0, 12);
        t.due("P27 hour as now", y.settings(NONE), 4096);
    }

    static void promise28Look() {
        NightColander x = new NightColander();
        t.due("P28 field", x.look(0), 0);
        t.due("P28 left", x.look(1), 4096);
        t.due("P28 what 2", x.look(2), NONE);
        t.due("P28 what -1", x.look(-1), NONE);
        Trial.feed(x, 0, 0, 0, 0, 1, 2, 0, 2, 3, 0, 3, 4, 0, 4, 5, 0, 5, 6, 0, 6, 7, 0, 7, 8);
        x.row();
        t.due("P28 the lowest", x.look(0), 0);
        t.due("P28 one turn of ring 0 each", x.look(1), 512);
        x.force(Trial.law(x, "runs 1;runs hole if ring=0 and field=4;runs hole/2 if ring=0 and field=2"));
        t.due("P28 field", x.look(0), 4);
        t.due("P28 left", x.look(1), 512);
        x.seen(2, 5);
        t.due("P28 of those left", x.look(1), 512);
        t.due("P28 field", x.look(0), 4);
        x.seen(2, 6);
        t.due("P28 none", x.look(0), NONE);
        t.due("P28 none", x.look(1), NONE);
    }

    // Of ring 3 one turn alone fits, whichever it is: the other rings' 512 settings are left.
    static void promise28OneTurnOfTheLastRing() {
        for (int turn = 0; turn < 8; turn++) {
            NightColander x = new NightColander();
            x.ream(0, 3);
            x.seen(turn, 15);
            t.due("P28 settings", x.settings(NONE), 512);
            t.due("P28 the last digit", x.settings(511), 7770 + turn);
            t.due("P28 left by turn " + turn, x.look(1), 512);
            t.due("P28 the lowest", x.look(0), 0);
        }
    }

    static void promise29Turned() {
        NightColander x = new NightColander();
        x.turn(0, 7);
        t.due("P29 none is wanted", x.turned(NONE), 0);
        t.due("P29 as it stands", x.turned(0), 7);
        t.due("P29 ring 4", x.turned(4), NONE);
        t.due("P29 -2", x.turned(-2), NONE);
        x.ream(0, 0);
        x.wanted(1, 15);
        t.due("P29 either way", x.turned(NONE), 2);
        t.due("P29 turn", x.turned(0), 1);
        x.wanted(1, NONE);
        x.wanted(3, 15);
        t.due("P29 four either way", x.turned(NONE), 4);
        t.due("P29 turn", x.turned(0), 3);
        t.due("P29 stays", x.hole(0, 0, 2), 7);
        x.wanted(4, 13);
        t.due("P29 it can't be", x.turned(NONE), NONE);
        t.due("P29 it can't be", x.turned(0), NONE);
        NightColander y = new NightColander();
        y.block(0, 0);
        y.block(4, 0);
        y.wanted(2, 9);
        t.due("P29 two ways", y.turned(NONE), 2);
        t.due("P29 the first", y.turned(0), 2);
        y.wanted(2, NONE);
        y.wanted(1, 12);
        y.wanted(0, 12);
        t.due("P29 not by 1, but by 7", y.turned(NONE), 1);
        t.due("P29 the first", y.turned(0), 7);
        NightColander z = new NightColander();
        z.ream(0, 0);
        z.ream(0, 3);
        z.wanted(1, 15);
        z.wanted(0, 15);
        t.due("P29 one of two rings", z.turned(NONE), 1);
        t.due("P29 the first as a row", z.turned(0), 0);
        t.due("P29 the first as a row", z.turned(3), 1);
    }

    static void promise30Cleared() {
        NightColander x = new NightColander();
        for (int r = 0; r < 4; r++) {
            x.block(5, r);
        }
        x.ream(5, 3);
        t.due("P30 none is needed", x.cleared(5, 0, 0), 0);
        t.due("P30 none is needed", x.cleared(5, 0, 1), 0);
        t.due("P30 one", x.cleared(5, 3, 0), 1);
        t.due("P30 the first", x.cleared(5, 3, 1), 1);
        t.due("P30 one", x.cleared(5, 6, 0), 1);
        t.due("P30 the wide one", x.cleared(5, 6, 1), 8);
        t.due("P30 two", x.cleared(5, 9, 0), 2);
        t.due("P30 the first", x.cleared(5, 9, 1), 9);
        t.due("P30 all", x.cleared(5, 15, 1), 15);
        t.due("P30 it can't be", x.cleared(5, 16, 0), NONE);
        t.due("P30 it can't be", x.cleared(5, 16, 1), NONE);
        t.due("P30 what 2", x.cleared(5, 3, 2), NONE);
        t.due("P30 what -1", x.cleared(5, 3, -1), NONE);
        t.due("P30 v 401", x.cleared(5, 401, 0), NONE);
        t.due("P30 v -1", x.cleared(5, -1, 0), NONE);
        t.due("P30 field 8", x.cleared(8, 0, 0), NONE);
        t.due("P30 field -1", x.cleared(-1, 0, 0), NONE);
        t.due("P30 nothing is done", x.count(2), 4);
        x.block(5, 0);
        t.due("P30 two", x.cleared(5, 9, 0), 1);
        t.due("P30 not what runs", x.cleared(5, 9, 1), 8);
    }

    static void promise31Drought() {
        NightColander x = Trial.under("runs 0");
        t.due("P31 all", x.drought(3), 60);
        t.due("P31 field 8", x.drought(8), NONE);
        t.due("P31 field -1", x.drought(-1), NONE);
        NightColander y = Trial.under("runs 0;runs 1 if ring=0 and hole=0");
        t.due("P31 once in eight", y.drought(0), 7);
        t.due("P31 nothing is done", y.count(13), 0);
        NightColander z = Trial.under("runs 0;runs 1 if hour=20 or hour=25 or hour=60");
        t.due("P31 of hours 0 .. 59", z.drought(0), 34);
        z.terms(0, 980);
        t.due("P31 beyond hour 999", z.drought(0), 60);
    }

    static void promise32Luck() {
        NightColander x = new NightColander();
        t.due("P32 alike", x.luck(0), 0);
        x.ream(2, 2);
        x.block(3, 0);
        t.due("P32 most", x.luck(2), 7);
        t.due("P32 least", x.luck(3), 0);
        t.due("P32 between", x.luck(7), 1);
        t.due("P32 field 8", x.luck(8), NONE);
        t.due("P32 field -1", x.luck(-1), NONE);
    }

    static void promise33Together() {
        NightColander x = new NightColander();
        int[][] due = {{-1, 8, 4, 8}, {8, -1, 8, 4}, {4, 8, -1, 8}, {8, 4, 8, -1}};
        for (int one = 0; one < 4; one++) {
            for (int other = 0; other < 4; other++) {
                t.due("P33 " + one + " " + other, x.together(one, other), due[one][other]);
            }
        }
        t.due("P33 ring 4", x.together(0, 4), NONE);
        t.due("P33 ring -1", x.together(-1, 0), NONE);
        t.due("P33 both", x.together(4, 4), NONE);
    }

    static void promise34Settled() {
        NightColander x = new NightColander();
        t.due("P34 none", x.settled(0), NONE);
        x.bucket(9, 0);
        x.pass();
        t.due("P34 itself", x.settled(0), 9);
        x.bucket(5, 1);
        x.bucket(7, 2);
        x.pass();
        t.due("P34 of the last", x.settled(0), 9 - 4 + 3);
        t.due("P34 of the one ahead", x.settled(1), 5 - 2 + 4);
        t.due("P34 of the one ahead", x.settled(2), 7 - 3 + 2);
        t.due("P34 bucket 3", x.settled(3), NONE);
        t.due("P34 bucket -1", x.settled(-1), NONE);
        t.due("P34 nothing is done", x.of(0, 1), 9);
    }

    static void promise35Few() {
        NightColander x = new NightColander();
        long whole = 1000000000000L;
        t.due("P35 no hole", x.few(1, 0), whole);
        t.due("P35 one", x.few(1, 1), 900000000000L);
        t.due("P35 one", x.few(2, 1), whole);
        x.terms(3, 3);
        t.due("P35 two of three", x.few(2, 3), 784000000000L);
        t.due("P35 three of three", x.few(3, 3), 973000000000L);
        x.terms(3, 10);
        t.due("P35 all rust", x.few(3, 3), 0);
        t.due("P35 all rust", x.few(4, 3), whole);
        t.due("P35 all rust", x.few(20, 99), 0);
        x.terms(3, 0);
        t.due("P35 none rusts", x.few(1, 99), whole);
        x.terms(3, 5);
        long cut = whole;
        for (int i = 0; i < 99; i++) {
            cut = cut * 5 / 10;
        }
        t.due("P35 cut", x.few(1, 99), cut);
        t.due("P35 k 0", x.few(0, 1), NONE);
        t.due("P35 k 21", x.few(21, 1), NONE);
        t.due("P35 n -1", x.few(1, -1), NONE);
        t.due("P35 n 100", x.few(1, 100), NONE);
    }

    static void promise36Worth() {
        NightColander x = new NightColander();
        t.due("P36 nothing", x.worth(NONE), 0);
        t.due("P36 no law", x.worth(0), NONE);
        x.bucket(9, 4);
        x.bucket(20, 5);
        x.pass();
        Trial.law(x, "pays field*level");
        Trial.law(x, "pays 0;leaks 3");
        t.due("P36 without a law", x.worth(NONE), 21);
        t.due("P36 by a law", x.worth(0), 9 * 36 + 12 * 60);
        t.due("P36 by another", x.worth(1), 0);
        x.force(1);
        t.due("P36 in place of that in force", x.worth(0), 9 * 36 + 12 * 60);
        t.due("P36 none", x.worth(NONE), 21);
        t.due("P36 no such law", x.worth(2), NONE);
        t.due("P36 no such law", x.worth(-2), NONE);
        t.due("P36 in force still", x.count(12), 1);
    }

    // By hand: from seed 0 the draws go by 12345, 628841, 621889: of ring 1 hole 1 is reamed.
    static void promise37Years() {
        NightColander x = new NightColander();
        x.bucket(99, 0);
        t.due("P37 seed -1", x.years(-1, 1), -1);
        t.due("P37 seed 1000001", x.years(1000001, 1), -1);
        t.due("P37 n 0", x.years(0, 0), -1);
        t.due("P37 n 61", x.years(0, 61), -1);
        for (int w : WRONG) {
            t.due("P37 n " + w, x.years(0, w), -1);
        }
        t.due("P37 refused", x.count(7), 4 + WRONG.length);
        t.due("P37 caught", x.years(0, 1), 12);
        x.set(0, 1);
        t.due("P37 caught below the one that is reamed", x.years(0, 1), 15);
        t.due("P37 bores", x.drawn(1, 0), 9);
        t.due("P37 on paper", x.count(1) + x.count(13), 0);
        t.due("P37 all draws", x.years(1000000, 60) >= 0 ? 1 : 0, 1);
        x.terms(0, 999);
        t.due("P37 at hour 999", x.years(7, 60), 0);
        x.terms(0, 997);
        x.years(1000000, 60);
        t.due("P37 two hours", x.drawn(3, 1), 0);
        t.due("P37 two hours", x.drawn(2, 1), 6);
    }

    // What the first hour draws from a seed: a ring, a hole, what is done.
    private static int[] draws(long seed) {
        int[] of = {4, 8, 3};
        long s = seed;
        for (int i = 0; i < of.length; i++) {
            s = (s * 1103 + 12345) % 1000003;
            of[i] = (int) (s % of[i]);
        }
        return of;
    }

    // The hole that is drawn is the one above the bucket: it is blocked, reamed, or nothing.
    static void promise37WhatIsDrawn() {
        boolean[] met = new boolean[3];
        for (int seed = 0; seed < 9; seed++) {
            int[] drawn = draws(seed);
            met[drawn[2]] = true;
            NightColander x = new NightColander();
            x.bucket(99, drawn[1]);
            int caught = drawn[2] == 0 ? 9 : drawn[2] == 1 ? 15 : 12;
            t.due("P37 caught by " + seed, x.years(seed, 1), caught);
            x.block(drawn[1], drawn[0]);
            t.due("P37 cleared by " + seed, x.years(seed, 1), drawn[2] == 0 ? 12 : 9);
            x.block(drawn[1], drawn[0]);
            Trial.feed(x, drawn[0], drawn[1], 9);
            x.row();
            t.due("P37 can't be reamed by " + seed, x.years(seed, 1), drawn[2] == 0 ? 9 : 36);
        }
        t.due("P37 all three were met", met[0] && met[1] && met[2] ? 1 : 0, 1);
    }

    static void promise38Drawn() {
        NightColander x = new NightColander();
        t.due("P38 ahead of any", x.drawn(0, 0), NONE);
        x.bucket(99, 0);
        x.years(0, 61);
        t.due("P38 refused ones are not kept", x.drawn(0, 0), NONE);
        int[] drawn = draws(0);
        int caught = x.years(0, 1);
        t.due("P38 bores", x.drawn(drawn[0], 0), drawn[2] == 1 ? 9 : 8);
        t.due("P38 turn", x.drawn(3, 1), 4);
        t.due("P38 level", x.drawn(0, 2), caught);
        t.due("P38 ring 4", x.drawn(4, 0), NONE);
        t.due("P38 ring -1", x.drawn(-1, 1), NONE);
        t.due("P38 bucket 1", x.drawn(1, 2), NONE);
        t.due("P38 what 3", x.drawn(0, 3), NONE);
        t.due("P38 what -1", x.drawn(0, -1), NONE);
        x.bucket(5, 5);
        t.due("P38 as it was then", x.drawn(1, 2), NONE);
        x.terms(0, 999);
        x.years(7, 60);
        t.due("P38 of the latest", x.drawn(3, 1), 0);
        t.due("P38 of the latest", x.drawn(1, 2), 0);
    }

    static void promise39Image() {
        NightColander x = new NightColander();
        t.due("P39 2", x.image(2), -1);
        t.due("P39 -1", x.image(-1), -1);
        for (int w : WRONG) {
            t.due("P39 image " + w, x.image(w), -1);
        }
        t.due("P39 nothing was kept", x.back(0) + x.back(1), -4);
        x.block(6, 2);
        x.ream(7, 3);
        String ahead = Trial.all(x);
        t.due("P39 kept", x.image(1), 0);
        t.same("P39 all", Trial.all(x), ahead);
        t.due("P39 the other is not", x.back(0), -2);
        x.ream(7, 3);
        t.due("P39 kept again", x.image(1), 0);
        x.ream(7, 3);
        x.back(1);
        t.due("P39 the latest of that number", x.hole(3, 7, 0), 3);
    }

    static void promise40Back() {
        NightColander x = new NightColander();
        t.due("P39 2", x.image(2), -1);
        t.due("P39 -1", x.image(-1), -1);
        t.due("P40 2", x.back(2), -1);
        t.due("P40 -1", x.back(-1), -1);
        t.due("P40 not kept", x.back(0), -2);
        t.due("P39", x.image(1), 0);
        t.due("P40 not kept", x.back(0), -2);
        x.force(Trial.law(x, "runs 8"));
        x.bucket(50, 2);
        x.turn(1, 4);
        x.wanted(3, 33);
        x.seen(4, 44);
        x.terms(2, 7);
        x.block(6, 2);
        x.ream(7, 3);
        x.pass();
        t.due("P39", x.image(0), 0);
        t.due("P39 leaves what can be undone", x.count(5), 3);
        x.years(3, 3);
        int drawn = x.drawn(0, 2);
        Trial.feed(x, 9, 9);
        x.row();
        Trial.orders(x, "pass pass");
        Trial.feed(x, "pas");
        int refused = x.count(7);
        t.due("P40", x.back(1), 0);
        t.due("P40 no bucket", x.count(0), 0);
        t.due("P40 no law", x.count(4), 0);
        t.due("P40 none in force", x.count(12), NONE);
        t.due("P40 none seen", x.count(3), 0);
        t.due("P40 none wanted", x.wanted(3, 5), NONE);
        t.due("P40 mood", x.count(15), 0);
        t.due("P40 hour", x.count(13), 0);
        t.due("P40 blocked", x.count(2), 0);
        t.due("P40 bore", x.hole(3, 7, 0), 1);
        t.due("P40 turn", x.hole(1, 0, 2), 0);
        t.due("P40 nothing to undo", x.count(5), 0);
        t.due("P40 the tape stays", x.count(6), 3);
        t.due("P40 fault stays", x.fault(), 5);
        t.due("P40 peas stay", x.peas(), 1);
        t.due("P40 years stay", x.drawn(0, 2), drawn);
        t.due("P40 refusals stay", x.count(7), refused);
        x.end(0);
        t.due("P13 a new law 0", Trial.law(x, "runs 9"), 0);
        x.force(0);
        t.due("P40 its law", x.hole(0, 0, 3), 9);
        t.due("P40 back and forth", x.back(0), 0);
        t.due("P40 the old law 0", x.hole(0, 0, 3), 8);
        t.due("P40 bucket", x.of(0, 1), 32);
        t.due("P40 turn", x.hole(1, 0, 2), 6);
        t.due("P40 wanted", x.wanted(3, 5), 33);
        t.due("P40 seen", x.count(3), 1);
        t.due("P40 mood", x.count(15), 7);
        t.due("P40 blocked", x.hole(2, 6, 1), 1);
        t.due("P40 bore", x.hole(3, 7, 0), 2);
        t.due("P40 nothing to undo", x.undo(), -3);
        x.block(0, 0);
        t.due("P40 images stay", x.back(0), 0);
        t.due("P40 images stay", x.count(2), 1);
        x.block(5, 0);
        Trial.orders(x, "pass;set 0 at 2");
        x.back(0);
        t.due("P40 where orders stopped stays", x.stopped(), 1);
    }

    static void promise41Count() {
        NightColander x = new NightColander();
        x.turn(9, 9);
        x.turn(9, 9);
        x.force(3);
        x.undo();
        x.undo();
        x.undo();
        for (int i = 0; i < 8; i++) {
            x.seen(0, 0);
        }
        x.row();
        t.due("P41 -1", x.count(7), 2);
        t.due("P41 -2", x.count(8), 1);
        t.due("P41 -3", x.count(9), 3);
        t.due("P41 -5", x.count(10), 2);
        t.due("P41 -6", x.count(11), 1);
        t.due("P41 17", x.count(17), NONE);
        t.due("P41 -1", x.count(-1), NONE);
        for (int w : WRONG) {
            t.due("P41", x.count(w), NONE);
        }
        x.bucket(30, 1);
        x.bucket(30, 2);
        x.pass();
        t.due("P41 buckets", x.count(0), 2);
        t.due("P41 levels", x.count(1), 24);
        x.feed(0, 0, 0, 0, 0);
        t.due("P41 bytes", x.count(6), 20);
        x.flow(-1);
        x.of(-1, -1);
        x.placed(0, 0);
        x.end(-1);
        t.due("P41 what answers NONE is not refused", x.count(7), 2);
    }

    static void promise42Status() {
        NightColander x = new NightColander();
        x.turn(9, 0);
        t.due("P42 turn", x.status(), -1);
        t.due("P42 stays", x.status(), -1);
        x.flow(0);
        x.flow(9);
        x.feed(0, 0, 0, 0, 0);
        x.end(0);
        x.forget();
        x.settings(-1);
        x.peas();
        t.due("P42 others leave it", x.status(), -1);
        x.wanted(0, 0);
        t.due("P42 wanted", x.status(), 0);
        x.force(0);
        t.due("P42 force", x.status(), -2);
        x.force(-1);
        t.due("P42 force", x.status(), 0);
        x.undo();
        t.due("P42 undo", x.status(), -3);
        x.image(0);
        t.due("P42 image", x.status(), 0);
        x.back(1);
        t.due("P42 back", x.status(), -2);
        x.back(0);
        t.due("P42 back", x.status(), 0);
        x.row();
        t.due("P42 row", x.status(), -6);
        x.years(0, 1);
        t.due("P42 years", x.status(), 0);
        x.law();
        t.due("P42 law", x.status(), -6);
        x.block(0, 0);
        t.due("P42 block", x.status(), 0);
        x.orders();
        t.due("P42 orders", x.status(), -6);
        x.ream(0, 0);
        t.due("P42 ream", x.status(), 0);
        x.set(0, 0);
        t.due("P42 set", x.status(), -2);
        x.pass();
        t.due("P42 pass", x.status(), 0);
        x.terms(9, 9);
        t.due("P42 terms", x.status(), -1);
        x.seen(0, 0);
        t.due("P42 seen", x.status(), 0);
        x.bucket(0, 0);
        t.due("P42 bucket", x.status(), -1);
        x.undo();
        t.due("P42 undo", x.status(), 0);
    }
}
