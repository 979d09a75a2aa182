/** Promises 13 to 17, and what the document tells of both languages: a test for each sentence that names a boundary. */
public final class EdgesOfTextsTest {
    private static final int NONE = NightColander.NONE;
    private static final Trial t = new Trial("EdgesOfTextsTest");

    public static void main(String[] args) throws ReflectiveOperationException {
        t.runNamed(EdgesOfTextsTest.class, 13, 17);
        t.end();
    }

    /** The text as a law has its fault there (NONE: none). */
    private static void law(String text, int place) {
        NightColander x = new NightColander();
        t.due("law '" + text + "'", Trial.law(x, text), place == NONE ? 0 : -6);
        t.due("fault of law '" + text + "'", x.fault(), place);
    }

    /** The text as orders has its fault there (NONE: none). */
    private static void orders(String text, int place) {
        NightColander x = new NightColander();
        t.due("orders '" + text + "'", Trial.orders(x, text) == -6 ? 1 : 0, place == NONE ? 0 : 1);
        t.due("fault of orders '" + text + "'", x.fault(), place);
    }

    /** A hole that no clause tells of runs 3 threads. */
    private static void runs(String text, int due) {
        t.due("runs " + text, Trial.under("runs " + text).hole(2, 5, 3), due);
    }

    private static void so(String test, boolean due) {
        t.due("if " + test, Trial.under("runs 50 if " + test).hole(2, 5, 3), due ? 50 : 3);
    }

    private static String times(String text, int often) {
        return text.repeat(often);
    }

    // "-6 (blanks alone: FAULT at the end)"
    static void promise13BlanksAlone() {
        law("", 0);
        law(" ", 1);
        law(times(" ", 400), 400);
    }

    // "LAWS, 6 at most", "-5"
    static void promise13Full() {
        NightColander x = new NightColander();
        for (int i = 0; i < 6; i++) {
            t.due("law " + i, Trial.law(x, "runs " + i), i);
        }
        t.due("the seventh", Trial.law(x, "runs 6"), -5);
        t.due("status", x.status(), -5);
        t.due("laws", x.count(4), 6);
        t.due("refused by -5", x.count(10), 1);
    }

    private static NightColander withSixLaws() {
        NightColander x = new NightColander();
        for (int i = 0; i < 6; i++) {
            Trial.law(x, "runs " + i);
        }
        return x;
    }

    // "-5 (ahead of reading it ..)"
    static void promise13FullAheadOfReading() {
        NightColander x = withSixLaws();
        t.due("a text that can't be", Trial.law(x, "runs"), -5);
        t.due("an empty one", x.law(), -5);
        t.due("refused by -6", x.count(11), 0);
        t.due("fault", x.fault(), NONE);
    }

    // "(.. the TAPE is empty then, too)"
    static void promise13FullEmptiesTheTape() {
        NightColander x = withSixLaws();
        Trial.law(x, "runs 1");
        t.due("bytes", x.count(6), 0);
    }

    // "The TAPE, which is empty then, becomes a LAW"
    static void promise13TapeIsEmptyThen() {
        NightColander x = new NightColander();
        Trial.law(x, "runs 1");
        t.due("behind a law", x.count(6), 0);
        Trial.law(x, "runs runs");
        t.due("behind a fault", x.count(6), 0);
    }

    static void promise13RefusedLeavesAll() {
        NightColander x = Trial.withBuckets("runs 7", 50);
        x.pass();
        Trial.law(x, "runs 1;");
        String ahead = Trial.all(x);
        t.due("a fault", Trial.law(x, "runs 1;"), -6);
        t.same("refused", Trial.all(x), ahead);
        t.due("the law in force", x.hole(0, 0, 3), 7);
    }

    // Numbers go on from those that an image has.
    static void promise13NumbersBehindBack() {
        NightColander x = new NightColander();
        Trial.law(x, "runs 1");
        x.image(0);
        for (int i = 1; i < 6; i++) {
            Trial.law(x, "runs 9");
        }
        t.due("full", Trial.law(x, "runs 9"), -5);
        x.back(0);
        t.due("room again", Trial.law(x, "runs 2"), 1);
        x.force(1);
        t.due("runs", x.hole(0, 0, 3), 2);
    }

    static void promise13TextAsLongAsTheTape() {
        String text = "runs 8" + times(" ", 393) + "8";
        law(text, 399);
        law("runs" + times(" ", 395) + "8", NONE);
    }

    // "CLAUSE {";" CLAUSE}, 12 at most (FAULT at the 13th's first TOKEN)"
    static void promise13ThirteenClauses() {
        String twelve = "bars" + times(";bars", 11);
        law(twelve, NONE);
        law(twelve + ";bars", 60);
        law(twelve + ";  bars", 62);
        law(twelve + ";runs", 60);
        law(twelve + ";", 60);
        law(twelve + ";  ", 62);
    }

    // "LAWS": the twelfth clause counts as the first does.
    static void promise13TwelfthClauseHolds() {
        t.due("the last", Trial.under("runs 1" + times(";runs 2", 10) + ";runs 4").hole(0, 0, 3), 4);
    }

    // "longest rows of letters a .. z, of digits, single other bytes"
    static void promise13TokensAtTheirEdges() {
        law("runs1", NONE);
        law("runs 1if1=1", NONE);
        law("runs hour1", 9);
        law("runs1hour", 5);
        law("runsa 1", 0);
        law("runs houry", 5);
        law("runs azaz", 5);
        law("runs weta", 5);
        law("runs wetz", 5);
        law("runs zwet", 5);
        law("runs wet0", 8);
        law("runs 1z", 6);
        law("runs 1z1", 6);
        law("runs `", 5);
        law("runs {", 5);
        law("runs :", 5);
        law("runs 09/09", NONE);
        law("runs A", 5);
        law("bars if 1<=2", 10);
        law("runs 1 1", 7);
        law("runs h our", 5);
    }

    // "any blanks (32) between"
    static void promise13OnlyByte32IsABlank() {
        law("   runs    1   ;   bars   ", NONE);
        law("runs\t1", 4);
        law("runs\n1", 4);
        law("runs\u00a01", 4);
        law("runs 1\u0000", 6);
        law("\u0000runs 1", 0);
    }

    static void promise13BytesAbove127() {
        law("runs \u00ff", 5);
        law("runs 1\u0080", 6);
        law("\u00f2uns 1", 0);
        // Its low seven bits would be a blank's.
        law("runs\u00a0 1", 4);
    }

    // "NUMBER (to 1,000)"
    static void promise13NumberTooLarge() {
        law("runs 1000", NONE);
        law("runs 1001", 5);
        law("runs 10000", 5);
        law("runs 4294967297", 5);
        law("runs 18446744073709551617", 5);
        law("runs " + times("9", 395), 5);
        law("runs " + times("0", 395), NONE);
        runs("1000/20", 50);
    }

    static void promise13NumberWithZerosAhead() {
        runs("007", 7);
        runs(times("0", 380) + "12", 12);
        law("runs 0001001", 5);
    }

    // "50 PARTS that are NUMBERS and words (FAULT at the 51st)"
    static void promise13FiftyOneParts() {
        String fifty = "runs 1" + times("+1", 49);
        law(fifty, NONE);
        law(fifty + "+1", 105);
        law(fifty + "+hour", 105);
        law(fifty + "+;bars", 105);
        law(fifty + "+if 1=1", 105);
        law("runs hour" + times("*wet", 49) + ";pays 1", 4 + 5 + 4 * 49 + 6);
    }

    // The brackets are no parts, a verb is none, and all clauses count together.
    static void promise13FiftyPartsOfAllClauses() {
        law("runs [1]" + times("+[1]", 49), NONE);
        law("runs 1" + times("+1", 23) + ";pays 1" + times("+1", 23) + ";bars if 1=1", NONE);
        law("runs 1" + times("+1", 23) + ";pays 1" + times("+1", 24) + ";bars if 1=1", 6 + 46 + 7 + 48 + 11);
    }

    // Parts, steps and brackets of one text do not count for the next.
    static void promise13TextsOneBehindTheOther() {
        NightColander x = new NightColander();
        String most = "runs 1" + times("+1", 49);
        for (int i = 0; i < 6; i++) {
            t.due("law", Trial.law(x, most), i);
            x.force(i);
            t.due("runs", x.hole(0, 0, 3), 50);
        }
        t.due("orders", Trial.orders(x, "block 1" + times("*1", 48) + " of 1"), 1);
        t.due("orders with a fault", Trial.orders(x, "block 1" + times("*1", 48) + " of 1 if 1"), -6);
        t.due("its place", x.fault(), 112);
        t.due("orders with a fault", Trial.orders(x, "block [[[[[[[[[1"), -6);
        for (int i = 0; i < 6; i++) {
            t.due("orders", Trial.orders(x, "block [[[[[[[[2]]]]]]]] of 1" + times("*1", 48)), 1);
        }
        t.due("blocked", x.hole(1, 2, 1), 0);
    }

    // "8 brackets of both kinds within one another (FAULT at the 9th) at most"
    static void promise13NineBrackets() {
        law("runs " + times("[", 8) + "1" + times("]", 8), NONE);
        law("runs " + times("[", 9) + "1" + times("]", 9), 13);
        law("bars if " + times("(", 8) + "1=1" + times(")", 8), NONE);
        law("bars if " + times("(", 9) + "1=1" + times(")", 9), 16);
    }

    static void promise13NineBracketsOfBothKinds() {
        law("bars if ((((([[[1]]]=1)))))", NONE);
        law("bars if ((((([[[[1]]]]=1)))))", 16);
        law("bars if (((((((([1]=1))))))))", 16);
        law("bars if " + times("(", 8) + "1=1" + times(")", 8) + " or ([1]=1)", NONE);
    }

    // Those beside one another are not within one another.
    static void promise13BracketsBeside() {
        law("runs " + times("[1]+", 19) + "[1]", NONE);
        law("runs [[[[[[[[1]]]]]]]]+[[[[[[[[1]]]]]]]]", NONE);
        law("runs [[[[[[[[1]]]]]]]+[[[[[[[1]]]]]]]]", NONE);
        law("runs [[[[[[[[1]]]]]]]+[[[[[[[[1", 29);
    }

    static void promise13ManyNots() {
        law("bars if " + times("not ", 97) + "1=1", NONE);
        law("bars if " + times("not ", 98), 400);
        t.due("97 of them", Trial.under("bars;runs 9 if " + times("not ", 95) + "1=1").hole(0, 0, 3), 3);
        t.due("94 of them", Trial.under("bars;runs 9 if " + times("not ", 94) + "1=1").hole(0, 0, 3), 9);
    }

    // "Beyond 1,000,000,000 either way .. a SUM .. is BROKEN"
    static void promise13BeyondTheMost() {
        runs("1000*1000*1000/1000/1000/100", 10);
        runs("[1000*1000*1000+1]/1000/1000/100", 3);
        runs("[999*1000*1000+1000*1000]/1000/1000/100", 10);
        runs("[999*1000*1000+1000*1000+1]/1000/1000/100", 3);
        runs("1000*1000*1000*1000/1000/1000/1000/100", 3);
        runs("1000*1000*1000*1000*0", 3);
        runs("1000*1000*1000+1-1", 3);
    }

    static void promise13BeyondTheLeast() {
        runs("[0-1000*1000*1000]/1000/1000/100+20", 10);
        runs("[0-1000*1000*1000-1]/1000/1000/100+20", 3);
        runs("[0-1000]*1000*1000/1000/1000/100+20", 10);
        runs("[0-1000]*1000*1000*2/1000/1000/100+40", 3);
    }

    // What is beyond an int, or wraps round to a small one, is broken, too.
    static void promise13BeyondAnInt() {
        runs("1000*1000*1000*5", 3);
        runs("1000*1000*1000*[1000*1000*1000]", 3);
        runs("[0-1000*1000*1000]*[1000*1000*1000]", 3);
        // 65536 times 65536 is 0 in an int.
        runs("[64*1024%1000]+[256*256]*[256*256]", 3);
        so("1000*1000*1000*4>0", false);
        so("not 1000*1000*1000*4>0", false);
    }

    // "or divided by 0"
    static void promise13DividedByZero() {
        runs("1/0", 3);
        runs("1%0", 3);
        runs("0/0", 3);
        runs("7/[3-3]", 3);
        runs("7%[3-3]", 3);
        runs("0*[1/0]", 3);
        runs("0/7+5", 5);
        runs("0%7+5", 5);
    }

    // "(/ cut towards 0, % what is left then)"
    static void promise13CutTowardsZero() {
        runs("10+7/2", 13);
        runs("10+[0-7]/2", 7);
        runs("10+7/[0-2]", 7);
        runs("10+[0-7]/[0-2]", 13);
        runs("10+7%2", 11);
        runs("10+[0-7]%2", 9);
        runs("10+7%[0-2]", 11);
        runs("10+[0-7]%[0-2]", 9);
        runs("10+[0-1]/2", 10);
    }

    // ""or", "and" ask what stands behind only if it can still matter"
    static void promise13WhatCanStillMatter() {
        so("1=1 or 1/0=1", true);
        so("1=2 or 1/0=1", false);
        so("not (1=2 or 1/0=1)", false);
        so("1=2 and 1/0=1", false);
        so("not (1=2 and 1/0=1)", true);
        so("not (1=1 and 1/0=1)", false);
        so("1/0=1 or 1=1", false);
        so("not (1/0=1 and 1=2)", false);
        so("1=2 and 1/0=1 or 1=1", true);
        so("1=1 or 1=1 and 1/0=1", true);
        so("1=2 or 1=1 or 1/0=1", true);
        so("1=1 and 1=2 and 1/0=1 or 1=1", true);
        so("2<1 and 1/0=1 or 1=1", true);
        so("1>2 and 1/0=1 or 1=1", true);
        so("not 1=1 and 1/0=1 or 1=1", true);
        so("not 1=2 or 1/0=1", true);
    }

    static void promise13NotBindsFirst() {
        so("not 1=1 and 1=1", false);
        so("not 1=1 or 1=1", true);
        so("not 1=2 and 1=1", true);
        so("not (1=1 and 1=2)", true);
        so("not 1<2 and 1=1", false);
        so("2<1 and 1=1", false);
        so("2<1 or 1=1", true);
        so("1=1 and not 1=1", false);
        so("1=1 or not 1=1 and not 1=1", true);
    }

    static void promise13Comparisons() {
        so("1<2", true);
        so("2<2", false);
        so("3<2", false);
        so("3>2", true);
        so("2>2", false);
        so("1>2", false);
        so("2=2", true);
        so("1=2", false);
        so("0-1<0", true);
        so("0-1>0", false);
    }

    // "A CLAUSE HOLDS, if its "if" .. is so, and neither that nor its SUM is BROKEN"
    static void promise13ClauseThatDoesNotHold() {
        runs("9;runs 8 if 1=2", 9);
        runs("9;runs 8 if 1/0=1", 9);
        runs("9;runs 8/0", 9);
        runs("9;runs 8/0 if 1=1", 9);
        runs("9 if 1=1;runs 8", 8);
        runs("9/0;runs 8/0", 3);
    }

    // "bucket, level -1" for a hole, "ring, hole, bore -1" for a bucket
    static void promise13WordsThatAreNotThere() {
        NightColander x = Trial.withBuckets("runs bucket+level+9;leaks ring+hole+bore+9;pays ring+hole+bore+9;bars if ring+hole+bore=0-3", 50);
        t.due("runs", x.hole(0, 0, 3), 7);
        t.due("leaks", x.of(0, 3), 6);
        t.due("pays", x.of(0, 4), 6);
        t.due("bars", x.of(0, 5), 1);
    }

    static void promise13WordsThatAreThere() {
        NightColander x = Trial.under("runs ring*32+hole*4+bore if mood=8;runs field*10+wet if mood=7;runs hour/10 if mood=9");
        x.ream(7, 2);
        x.turn(2, 1);
        x.terms(2, 8);
        t.due("ring, hole, bore", x.hole(2, 7, 3), 94);
        x.turn(2, 2);
        x.terms(1, 5);
        x.terms(2, 7);
        t.due("field, wet", x.hole(2, 7, 3), 15);
        x.terms(2, 9);
        x.terms(0, 770);
        t.due("hour", x.hole(2, 7, 3), 77);
        NightColander y = Trial.withBuckets("runs 2;leaks bucket*4+field;pays level*10+bucket+field", 8, 9);
        y.pass();
        y.set(1, 5);
        t.due("leaks", y.of(1, 3), 9);
        t.due("pays", y.of(1, 4), 36);
        NightColander z = Trial.withBuckets("runs 2;bars if bucket=1 and level=8 and field=6", 8, 9);
        t.due("bars by the level", z.of(1, 11), 0);
        z.pass();
        t.due("bars", z.of(1, 11), 1);
        t.due("bars by the bucket", z.of(0, 11), 0);
        t.due("bars by the field", z.of(1, 10), 0);
    }

    // "(blanks alone ..)", "-6 (as for law())"
    static void promise14BlanksAlone() {
        orders("", 0);
        orders(" ", 1);
        orders(times(" ", 400), 400);
        NightColander x = new NightColander();
        t.due("orders", Trial.orders(x, "  "), -6);
        t.due("bytes", x.count(6), 0);
        t.due("status", x.status(), -6);
        t.due("refused by -6", x.count(11), 1);
    }

    // "the TAPE is empty then"
    static void promise14TapeIsEmptyThen() {
        NightColander x = new NightColander();
        Trial.orders(x, "pass");
        t.due("behind those run", x.count(6), 0);
        Trial.orders(x, "block 9 of 9");
        t.due("behind one that can't be", x.count(6), 0);
        Trial.orders(x, "pass pass");
        t.due("behind a fault", x.count(6), 0);
    }

    // "how many were run"
    static void promise14NoneRun() {
        NightColander x = new NightColander();
        t.due("none", Trial.orders(x, "pass times 20 if 1=2"), 0);
        t.due("status", x.status(), 0);
        t.due("can be undone", x.count(5), 0);
    }

    static void promise14MostThatCanRun() {
        NightColander x = new NightColander();
        t.due("twelve times twenty", Trial.orders(x, "pass times 20" + times(";pass times 20", 11)), 240);
        t.due("hour", x.count(13), 240);
        t.due("can be undone", x.count(5), 16);
    }

    static void promise14ThirteenClauses() {
        String twelve = "pass" + times(";pass", 11);
        orders(twelve, NONE);
        orders(twelve + ";pass", 60);
        orders(twelve + "; pass", 61);
        orders(twelve + ";", 60);
    }

    // "TIMES: a NUMBER 1 .. 20"
    static void promise14TimesTooFew() {
        orders("pass times 0", 11);
        orders("pass times 1", NONE);
        orders("pass times", 10);
        orders("pass times 0-1", 11);
    }

    static void promise14TimesTooMany() {
        orders("pass times 20", NONE);
        orders("pass times 21", 11);
        orders("pass times 1000", 11);
        orders("pass times 4294967297", 11);
        t.due("twenty", Trial.orders(new NightColander(), "pass times 20"), 20);
    }

    // "(once without)"
    static void promise14OnceWithoutTimes() {
        t.due("once", Trial.orders(new NightColander(), "pass"), 1);
        t.due("once", Trial.orders(new NightColander(), "pass times 1"), 1);
        t.due("the next clause has its own", Trial.orders(new NightColander(), "pass times 5;pass"), 6);
    }

    // "R: a NUMBER 0 .. 3"
    static void promise14TurnOfARingTooLarge() {
        orders("pass if turn 0=0", NONE);
        orders("pass if turn 3=0", NONE);
        orders("pass if turn 4=0", 13);
        orders("pass if turn 0-1=0", NONE);
        orders("pass if turn hour=0", 13);
        orders("pass if turn", 12);
        orders("pass if turn [1]=1", 13);
    }

    // "B: 0 .. 2"
    static void promise14LevelOfABucketTooLarge() {
        orders("pass if level 2=0", NONE);
        orders("pass if level 3=0", 14);
        orders("pass if level=0", 13);
    }

    // "F: 0 .. 7"
    static void promise14FlowOfAFieldTooLarge() {
        orders("pass if flow 7=0", NONE);
        orders("pass if flow 8=0", 13);
        orders("pass if flow 1000=0", 13);
        orders("pass if flow 4294967296=0", 13);
    }

    static void promise14WordsOfTheLastOnes() {
        NightColander x = Trial.withBuckets("", 9, 9, 9);
        x.turn(3, 5);
        x.ream(7, 0);
        t.due("run", Trial.orders(x, "block turn 3 of 0;pass;block level 2/3 of 1;ream flow 0/6 of 2"), 4);
        t.due("turn 3", x.hole(0, 5, 1), 1);
        t.due("level 2", x.hole(1, 3, 1), 1);
        t.due("flow 0", x.hole(2, 2, 0), 2);
    }

    static void promise14WordsOfEachRingBucketField() {
        for (int f = 0; f < 8; f++) {
            NightColander x = Trial.under("runs 0;runs field if ring=0");
            t.due("flow " + f, Trial.orders(x, "block flow " + f + " of 1"), 1);
            t.due("is " + f, x.hole(1, f, 1), 1);
        }
        for (int r = 0; r < 4; r++) {
            NightColander x = new NightColander();
            for (int other = 0; other < 4; other++) {
                x.turn(other, other + 2);
            }
            t.due("turn " + r, Trial.orders(x, "block turn " + r + " of 1"), 1);
            t.due("is " + (r + 2), x.hole(1, r + 2, 1), 1);
        }
        for (int b = 0; b < 3; b++) {
            NightColander x = Trial.withBuckets("", 3, 5, 7);
            t.due("level " + b, Trial.orders(x, "pass;block level " + b + " of 1;block caught/3 of 2"), 3);
            t.due("is " + (2 * b + 3), x.hole(1, 2 * b + 3, 1), 1);
            t.due("caught is 15", x.hole(2, 5, 1), 1);
        }
    }

    // Flows are asked anew each time, and each clause has its own words.
    static void promise14WordsOfEachClause() {
        NightColander x = Trial.under("runs 0;runs hour if field=3 and ring=0");
        t.due("run", Trial.orders(x, "block 0 of 0 if flow 3=0;pass times 9 if flow 3<2;block flow 3 of 1;block 7 of 3 if flow 4=0"), 5);
        t.due("flow then", x.hole(1, 2, 1), 1);
        t.due("hour", x.count(13), 2);
    }

    // "R, B, F, TIMES aside, NUMBERS and words count as PARTS"
    static void promise14FiftyOneParts() {
        String fifty = "pass if turn 1" + times("+turn 1", 48) + "=1";
        orders(fifty, NONE);
        orders(fifty + " or 1=1", fifty.length() + 4);
        orders(fifty + ";pass times 20", NONE);
        orders(fifty + ";block 1 of 1", fifty.length() + 7);
        orders("pass times 3 if turn 1" + times("+turn 1", 48) + "=1", NONE);
        orders("pass if 1" + times("+1", 48) + "=level 9", 9 + 96 + 7);
        orders("pass if 1" + times("+1", 49) + "=level 9", 9 + 98 + 1);
    }

    static void promise14NineBrackets() {
        orders("block " + times("[", 8) + "1" + times("]", 8) + " of " + times("[", 8) + "1" + times("]", 8), NONE);
        orders("block " + times("[", 9) + "1" + times("]", 9) + " of 1", 14);
        orders("block 1 of " + times("[", 9) + "1" + times("]", 9), 19);
        orders("pass if " + times("(", 9) + "1=1" + times(")", 9), 16);
        orders("pass if (((((((([1]=1))))))))", 16);
    }

    // "latest: .. (-1: none)"
    static void promise14LatestWithoutAnHour() {
        NightColander x = Trial.withBuckets("", 99);
        x.pass();
        t.due("not of an earlier call", Trial.orders(x, "block 1 of 1 if latest=0-1"), 1);
        t.due("of this text", Trial.orders(x, "pass;block 1 of 1 if latest=12"), 2);
        NightColander y = new NightColander();
        t.due("0 is not none", Trial.orders(y, "pass;block 1 of 1 if latest=0"), 2);
        t.due("an hour that was not run", Trial.orders(y, "pass if 1=2;block 1 of 1 if latest=0-1"), 1);
    }

    // "level: -1 without such a BUCKET"
    static void promise14LevelWithoutABucket() {
        NightColander x = Trial.withBuckets("", 9);
        t.due("run", Trial.orders(x, "block 0 of 0 if level 0=0;block 1 of 0 if level 1=0-1;block 2 of 0 if level 2=0-1"), 3);
    }

    // "caught: all LEVELS together"
    static void promise14CaughtWithoutABucket() {
        t.due("0", Trial.orders(new NightColander(), "block 1 of 1 if caught=0"), 1);
    }

    static void promise14DoneInThisText() {
        NightColander x = new NightColander();
        Trial.orders(x, "pass times 3");
        t.due("from 0", Trial.orders(x, "block done of 0 times 3"), 3);
        t.due("(0, 2)", x.hole(0, 2, 1), 1);
        t.due("(0, 3)", x.hole(0, 3, 1), 0);
    }

    // "each time its "if" is asked (not run, if it is not so or BROKEN)"
    static void promise14BrokenIfIsNotRun() {
        NightColander x = new NightColander();
        t.due("broken", Trial.orders(x, "pass if 1/0=1;block 9/0 of 9 if 1/0=1;pass if not 1/0=1"), 0);
        t.due("status", x.status(), 0);
        t.due("stopped", x.stopped(), NONE);
        t.due("each time", Trial.orders(x, "pass times 20 if 6/[3-hour]>0"), 3);
    }

    // "-3 one can't be", "(a BROKEN SUM, as block(), ream(), set(), pass() are REFUSED)"
    static void promise14BrokenSum() {
        stops("block 1/0 of 1");
        stops("block 1 of 1/0");
        stops("ream 1%0 of 1");
        stops("set 0 at 1000*1000*1000+1");
    }

    static void promise14BlockThatCannotBe() {
        stops("block 8 of 0");
        stops("block 0-1 of 0");
        stops("block 0 of 4");
        stops("block 0 of 0-1");
        stops("block 1000*1000*1000 of 0");
    }

    static void promise14ReamThatCannotBe() {
        stops("ream 8 of 0");
        stops("ream 0 of 4");
        stops("ream 0 of 0 times 9");
        t.due("eight times", Trial.orders(new NightColander(), "ream 0 of 0 times 8"), 8);
    }

    static void promise14SetThatCannotBe() {
        stops("set 2 at 5");
        stops("set 0-1 at 5");
        stops("set 3 at 5");
        stops("set 0 at 8");
        stops("set 0 at 0-1");
        stops("set 0 at 0");
        stops("set 0 at 1");
        stops("set 0 at 7");
    }

    /** Two buckets at fields 0 and 1, barred from 7: the text can't be, nor behind what can be. */
    private static void stops(String text) {
        NightColander x = Trial.withBuckets("bars if field=7", 20, 20);
        t.due("'" + text + "'", Trial.orders(x, text), -3);
        t.due("stopped by '" + text + "'", x.stopped(), 0);
        t.due("status", x.status(), -3);
        t.due("'pass;" + text + "'", Trial.orders(x, "pass;" + text), -3);
        t.due("stopped by 'pass;" + text + "'", x.stopped(), 1);
        t.due("hour", x.count(13), 0);
    }

    static void promise14PassThatCannotBe() {
        NightColander x = new NightColander();
        x.terms(0, 990);
        t.due("ten", Trial.orders(x, "pass times 10"), -3);
        t.due("hour", x.count(13), 990);
        t.due("nine", Trial.orders(x, "pass times 9"), 9);
        t.due("hour", x.count(13), 999);
        t.due("one more", Trial.orders(x, "pass"), -3);
        t.due("none at 999", Trial.orders(x, "pass if hour<999"), 0);
    }

    // "ends it: all is as it was ahead of it"
    static void promise14AllIsAsItWas() {
        NightColander x = Trial.withBuckets("runs bore*4;leaks 1", 60, 60);
        x.ream(4, 2);
        x.pass();
        x.set(1, 5);
        Trial.orders(x, "set 0 at 5");
        String ahead = Trial.all(x);
        t.due("run but for the last", Trial.orders(x, "set 0 at 6 times 1;block 1 of 1;ream 1 of 1;pass times 20;set 1 at 7;set 0 at 7"), -3);
        t.same("stopped", Trial.all(x).replace("stopped 5", "stopped 0"), ahead);
        t.due("undo as ahead", x.undo(), 2);
        t.due("undo as ahead", x.undo(), 3);
        t.due("undo as ahead", x.undo(), 1);
        t.due("undo as ahead", x.undo(), -3);
    }

    static void promise14OneRefusalOnly() {
        NightColander x = new NightColander();
        Trial.orders(x, "pass;block 9 of 9");
        t.due("-1", x.count(7), 0);
        t.due("-3", x.count(9), 1);
        Trial.orders(x, "set 0 at 1");
        t.due("-2", x.count(8), 0);
        t.due("-3", x.count(9), 2);
    }

    static void promise14FaultRunsNothing() {
        NightColander x = new NightColander();
        t.due("a fault at the end", Trial.orders(x, "pass;block 1 of 1;pass times 21"), -6);
        t.due("hour", x.count(13), 0);
        t.due("can be undone", x.count(5), 0);
        t.due("a fault is told, not what can't be", Trial.orders(x, "block 9 of 9;walk"), -6);
    }

    // "NONE without."
    static void promise15NoneWithout() {
        NightColander x = new NightColander();
        t.due("new", x.fault(), NONE);
        Trial.law(x, "runs");
        t.due("a fault", x.fault(), 4);
        Trial.law(x, "runs 1");
        t.due("none behind a law", x.fault(), NONE);
        Trial.orders(x, "pass 1");
        t.due("a fault", x.fault(), 5);
        Trial.orders(x, "pass");
        t.due("none behind orders", x.fault(), NONE);
        Trial.law(x, "walks");
        t.due("a fault at the first", x.fault(), 0);
        Trial.orders(x, "block 9 of 9");
        t.due("none by one that can't be", x.fault(), NONE);
    }

    // "of the latest law(), orders() that read a TEXT"
    static void promise15NotReadIsNotTheLatest() {
        NightColander x = withSixLaws();
        Trial.orders(x, "pass 1");
        t.due("no room", Trial.law(x, "runs runs"), -5);
        t.due("of the orders still", x.fault(), 5);
        x.row();
        t.due("row() reads none", x.fault(), 5);
    }

    // "(the end's: the TEXT's length)"
    static void promise15AtTheEnd() {
        law("runs", 4);
        law("runs   ", 7);
        law("runs 1 if", 9);
        law("runs 1;", 7);
        law("runs 1 if 1=1 or ", 17);
        law("runs [1", 7);
        law("bars if (1=1", 12);
        law("bars if not", 11);
        law("bars if 1", 9);
        law("bars if 1<", 10);
        law("runs 1+", 7);
        law("runs 1*", 7);
        orders("block", 5);
        orders("block 1", 7);
        orders("block 1 of", 10);
        orders("set 1 at", 8);
        orders("pass times", 10);
        orders("pass if flow", 12);
    }

    // "the first TOKEN that can't go on there"
    static void promise15FirstTokenThatCannotGoOn() {
        law("leaks 1 leaks 2", 8);
        law("bars 1", 5);
        law("bars if 1=1)", 11);
        law("runs 1]", 6);
        law("runs (1)", 5);
        law("bars if [1=1]", 10);
        law("bars if (1)=1", 10);
        law("runs if 1=1", 5);
        law("runs 1 if if", 10);
        law("pass", 0);
        law("runs 1;;", 7);
        law("runs done", 5);
        law("runs turn 1", 5);
        law("runs -1", 5);
        law("runs ;bars", 5);
        law("runs 1+;bars", 7);
        law("runs 1*;bars", 7);
        law("runs [;bars", 6);
        law("runs [1;bars", 7);
        law("bars if;bars", 7);
        law("bars if not;bars", 11);
        law("bars if (;bars", 9);
        law("bars if (1=1;bars", 12);
        law("bars if 1;bars", 9);
        law("bars if 1=;bars", 10);
        law("bars if 1=1 or;bars", 14);
        law("bars if 1=1 and;bars", 15);
        law("bars if 1=1 and if 1=1", 16);
        orders("block 1 of;pass", 10);
        orders("block;pass", 5);
        orders("pass times;pass", 10);
        orders("pass if flow;pass", 12);
        orders("bars", 0);
        orders("pass if ring=1", 8);
        orders("pass if 1=1 times 2", 12);
        orders("pass times 2 times 2", 13);
        orders("block 1 at 1", 8);
        orders("set 1 of 1", 6);
        orders("pass pass", 5);
        orders("pass;;pass", 5);
        orders("set level 0 at hour", NONE);
    }

    // "NONE."
    static void promise16NoneWithout() {
        NightColander x = new NightColander();
        t.due("new", x.stopped(), NONE);
        Trial.orders(x, "block 9 of 9");
        t.due("the first", x.stopped(), 0);
        Trial.orders(x, "pass");
        t.due("none behind those run", x.stopped(), NONE);
        Trial.orders(x, "block 9 of 9");
        Trial.orders(x, "pass pass");
        t.due("none behind a fault", x.stopped(), NONE);
    }

    static void promise16LastClause() {
        NightColander x = new NightColander();
        Trial.orders(x, times("pass;", 11) + "block 9 of 9");
        t.due("the twelfth", x.stopped(), 11);
    }

    static void promise16ClauseThatCouldBeAtFirst() {
        NightColander x = new NightColander();
        Trial.orders(x, "pass;ream done of 0 times 20;pass");
        t.due("at its eighth time", x.stopped(), 1);
    }

    // "of the latest orders()"
    static void promise16OthersLeaveIt() {
        NightColander x = new NightColander();
        Trial.orders(x, "pass;block 9 of 9");
        x.block(9, 9);
        Trial.law(x, "runs 1");
        Trial.law(x, "runs");
        x.pass();
        x.undo();
        x.row();
        t.due("still", x.stopped(), 1);
    }

    // "(NONE: none)"
    static void promise17None() {
        NightColander x = Trial.under("runs 8");
        t.due("was 0", x.force(NONE), 0);
        t.due("status", x.status(), 0);
        t.due("no clause", x.hole(0, 0, 3), 3);
        t.due("was none", x.force(0), NONE);
        t.due("was none, which is no refusal", x.status(), 0);
        t.due("refused by -1", x.count(7), 0);
    }

    // "-2."
    static void promise17NoSuchLaw() {
        NightColander x = new NightColander();
        t.due("no law at all", x.force(0), -2);
        Trial.law(x, "runs 1");
        Trial.law(x, "runs 2");
        t.due("1", x.force(1), NONE);
        t.due("2", x.force(2), -2);
        t.due("-2", x.force(-2), -2);
        for (int far : Trial.FAR) {
            t.due("far " + far, x.force(far), -2);
        }
        t.due("status", x.status(), -2);
        t.due("still in force", x.count(12), 1);
        t.due("runs", x.hole(0, 0, 3), 2);
        t.due("refused by -2", x.count(8), 3 + Trial.FAR.length);
    }

    static void promise17LastLaw() {
        NightColander x = withSixLaws();
        t.due("5", x.force(5), NONE);
        t.due("runs", x.hole(0, 0, 3), 5);
        t.due("6", x.force(6), -2);
        t.due("0", x.force(0), 5);
        t.due("runs", x.hole(0, 0, 3), 0);
    }

    static void promise17LawsOfAnImage() {
        NightColander x = new NightColander();
        x.image(0);
        Trial.law(x, "runs 1");
        x.force(0);
        x.back(0);
        t.due("none then", x.count(12), NONE);
        t.due("no such law then", x.force(0), -2);
    }
}
