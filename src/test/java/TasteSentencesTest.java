import java.util.function.ToLongFunction;

/**
 * The boundary cases of tasting (promises 27 to 30), of images (35, 36), of what is counted and told of
 * the latest call (37, 38): a test for each sentence, named by its promise.
 */
public final class TasteSentencesTest {
    private static final Due DUE = new Due();
    private static final Watch WATCH = new Watch(DUE);
    private static final int NONE = SoleraCellar.NONE;
    private static final int LEAST = Integer.MIN_VALUE;
    private static final int MOST = Integer.MAX_VALUE;

    public static void main(String[] args) {
        Sentences.run(TasteSentencesTest.class, DUE, 27, 28, 29, 30, 35, 36, 37, 38);
    }

    // ---- Promise 27: tasted

    static void p27TheFactIsNoughtToTwo() {
        SoleraCellar x = new SoleraCellar();
        DUE.is("tasted(0, 1)", x.tasted(0, 1), 1);
        DUE.is("tasted(2, 1)", x.tasted(2, 1), 2);
        for (int fact : new int[] {-1, 3, LEAST, MOST}) {
            WATCH.refused("tasted(" + fact + ", 1)", Made::busy, y -> y.tasted(fact, 1), -1);
        }
    }

    static void p27NIsNoughtTo999() {
        SoleraCellar x = new SoleraCellar();
        DUE.is("tasted(1, 0)", x.tasted(1, 0), 1);
        DUE.is("tasted(1, 999)", x.tasted(1, 999), 2);
        for (int n : new int[] {-1, 1000, LEAST, MOST}) {
            WATCH.refused("tasted(1, " + n + ")", Made::busy, y -> y.tasted(1, n), -1);
        }
    }

    private static SoleraCellar sixTasted() {
        SoleraCellar x = Made.busy();
        for (int n = 2; n <= 6; n++) {
            x.tasted(1, 8);
        }
        return x;
    }

    static void p27SixAreTheMost() {
        SoleraCellar x = new SoleraCellar();
        for (int n = 1; n <= 6; n++) {
            DUE.is("tasted " + n, x.tasted(n % 3, n), n);
            DUE.is("count(2)", x.count(2), n);
        }
        WATCH.refused("a seventh", TasteSentencesTest::sixTasted, y -> y.tasted(0, 0), -5);
    }

    static void p27ANumberThatCantBeIsToldAheadOfNoRoom() {
        WATCH.refused("a seventh of FACT 3", TasteSentencesTest::sixTasted, x -> x.tasted(3, 0), -1);
        WATCH.refused("a seventh of 1000", TasteSentencesTest::sixTasted, x -> x.tasted(0, 1000), -1);
    }

    static void p27AllSixMatter() {
        SoleraCellar x = Made.cellar(0, 9);
        for (int n = 1; n <= 5; n++) {
            x.tasted(1, 0);
        }
        DUE.is("five", x.canBe(), 1);
        x.tasted(1, 1);
        DUE.is("the sixth", x.canBe(), 0);
        SoleraCellar y = Made.cellar(0, 9);
        y.tasted(1, 1);
        for (int n = 2; n <= 6; n++) {
            y.tasted(1, 0);
        }
        DUE.is("the first", y.canBe(), 0);
    }

    static void p27ItLeavesWhatCanBeUndone() {
        WATCH.accepted("tasted(1, 7)", Made::busy, x -> x.tasted(1, 7), 2, "count(2)", 2, "canBe()", 0);
    }

    // ---- Promise 28: forget

    static void p28HowOftenThereWas() {
        WATCH.asked("forget() of nothing", () -> Made.cellar(0, 9), SoleraCellar::forget, 0);
        WATCH.asked("forget() of one", Made::busy, SoleraCellar::forget, 1, "count(2)", 0, "canBe()", 7);
        WATCH.asked("forget() of six", TasteSentencesTest::sixTasted, SoleraCellar::forget, 6, "count(2)", 0, "canBe()", 7);
    }

    static void p28ThereIsRoomForSixThen() {
        SoleraCellar x = sixTasted();
        x.forget();
        for (int n = 1; n <= 6; n++) {
            DUE.is("tasted " + n, x.tasted(1, 8), n);
        }
        DUE.is("a seventh", x.tasted(1, 8), -5);
    }

    // ---- Promise 29: canBe

    static void p29WithoutCasks() {
        SoleraCellar x = new SoleraCellar();
        DUE.is("nothing tasted", x.canBe(), 0);
        x.tasted(0, 999);
        DUE.is("NONE tasted", x.canBe(), 0);
    }

    static void p29AllWithoutAnythingTasted() {
        DUE.is("one", Made.cellar(0, 9).canBe(), 1);
        DUE.is("eight", Made.eight(0, 9).canBe(), 255);
    }

    static void p29TheBitsAreTheCasks() {
        SoleraCellar x = Made.eight(0, 9);
        x.pour(0, 1);
        x.pour(7, 1);
        x.tasted(1, 1);
        DUE.is("the first and the last", x.canBe(), 129);
        x.forget();
        x.tasted(1, 0);
        DUE.is("the others", x.canBe(), 126);
    }

    static void p29OfAnEmptyOneMeanAndLabelAre999() {
        SoleraCellar x = Made.cellar(0, 9);
        x.tasted(0, 999);
        x.tasted(1, 0);
        x.tasted(2, 999);
        DUE.is("empty", x.canBe(), 1);
        x.pour(0, 1);
        DUE.is("not empty", x.canBe(), 0);
        x.forget();
        x.tasted(0, 0);
        x.tasted(1, 1);
        x.tasted(2, 0);
        DUE.is("new wine", x.canBe(), 1);
        x.undo();
        DUE.is("empty again", x.canBe(), 0);
    }

    static void p29OneDropIsNotEmpty() {
        SoleraCellar x = Made.oneDropOver();
        x.bottle(0, 26);
        x.tasted(0, 1);
        x.tasted(1, 0);
        x.tasted(2, 1);
        DUE.is("canBe()", x.canBe(), 1);
    }

    static void p29MeanAndMeasuresAreCut() {
        SoleraCellar x = Made.cellar(0, 9);
        x.pour(0, 1);
        Made.pass(x, 2);
        x.pour(0, 1);
        x.pass();
        x.pour(0, 1);
        DUE.is("MEAN", x.of(0, 3), 1333);
        x.tasted(0, 1);
        DUE.is("MEAN 1333 is 1", x.canBe(), 1);
        SoleraCellar y = Made.oneDropShort(0);
        y.tasted(1, 0);
        DUE.is("999 drops are 0", y.canBe(), 3);
        SoleraCellar z = Made.oneDropOver();
        z.tasted(1, 26);
        DUE.is("26,001 drops are 26", z.canBe(), 1);
    }

    static void p29TheMeanInWholeYearsIsCut() {
        SoleraCellar x = Made.cellar(0, 999);
        x.pour(0, 998);
        x.pass();
        x.pour(0, 1);
        x.pass();
        DUE.is("MEAN", x.of(0, 3), 1998);
        x.tasted(0, 1);
        DUE.is("canBe()", x.canBe(), 1);
    }

    static void p29TheMostOfEachFact() {
        SoleraCellar x = Made.cellar(0, 999);
        x.pour(0, 999);
        Made.pass(x, 20);
        x.tasted(0, 19);
        x.tasted(1, 999);
        x.tasted(2, 19);
        DUE.is("canBe()", x.canBe(), 1);
    }

    static void p29TheLabelIsByPart() {
        SoleraCellar x = Made.cellar(0, 9);
        x.pour(0, 1);
        x.pass();
        x.pour(0, 1);
        x.tasted(2, 1);
        DUE.is("PART 85", x.canBe(), 0);
        x.terms(3, 50);
        DUE.is("PART 50", x.canBe(), 1);
        x.terms(3, 51);
        DUE.is("PART 51", x.canBe(), 0);
    }

    static void p29ItChangesNothing() {
        WATCH.asked("canBe()", Made::busy, SoleraCellar::canBe, 1);
    }

    // ---- Promise 30: taste

    static void p30WhatIsNoughtOrOne() {
        for (int what : new int[] {-1, 2, LEAST, MOST}) {
            WATCH.asked("taste(" + what + ")", Made::busy, x -> x.taste(what), NONE);
        }
        WATCH.asked("taste(0)", Made::busy, x -> x.taste(0), 0);
        WATCH.asked("taste(1)", Made::busy, x -> x.taste(1), 1);
    }

    static void p30ItCanBeNone() {
        SoleraCellar x = new SoleraCellar();
        DUE.is("taste(0) without casks", x.taste(0), NONE);
        DUE.is("taste(1) without casks", x.taste(1), NONE);
        SoleraCellar y = Made.cellar(0, 9);
        y.tasted(1, 5);
        DUE.is("taste(0)", y.taste(0), NONE);
        DUE.is("taste(1)", y.taste(1), NONE);
    }

    static void p30OneAndEightThatAreAlike() {
        SoleraCellar x = Made.cellar(0, 9);
        DUE.is("one: taste(0)", x.taste(0), 0);
        DUE.is("one: taste(1)", x.taste(1), 1);
        SoleraCellar y = Made.eight(0, 9);
        DUE.is("eight: taste(0)", y.taste(0), 0);
        DUE.is("eight: taste(1)", y.taste(1), 8);
    }

    static void p30TheLowestOfThoseAlike() {
        SoleraCellar x = Made.cellar(0, 9, 0, 9);
        x.pour(0, 1);
        DUE.is("all tell them apart: taste(0)", x.taste(0), 0);
        DUE.is("all tell them apart: taste(1)", x.taste(1), 1);
        x.pour(1, 2);
        DUE.is("MEASURES tell them apart: taste(0)", x.taste(0), 1);
        DUE.is("MEASURES tell them apart: taste(1)", x.taste(1), 1);
    }

    static void p30TheLabelAloneTellsThemApart() {
        SoleraCellar x = Made.cellar(0, 9, 0, 9);
        x.terms(3, 50);
        x.pour(0, 1);
        x.pass();
        x.pour(1, 2);
        x.pass();
        x.pour(0, 1);
        x.pass();
        // Cask 0: AGES 3 and 1, MEAN 2, LABEL 3. Cask 1: AGE 2, MEAN 2, LABEL 2.
        DUE.is("taste(0)", x.taste(0), 2);
        DUE.is("taste(1)", x.taste(1), 1);
    }

    static void p30OfThoseAloneThatCanBe() {
        SoleraCellar x = Made.cellar(0, 9, 0, 9, 0, 9, 0, 9);
        x.pour(0, 1);
        x.pour(1, 2);
        DUE.is("two are empty", x.taste(1), 2);
        x.tasted(0, 0);
        DUE.is("those with wine: taste(0)", x.taste(0), 1);
        DUE.is("those with wine: taste(1)", x.taste(1), 1);
    }

    static void p30TheMostThatAreAlikeCount() {
        SoleraCellar x = Made.eight(0, 9);
        x.pour(0, 1);
        x.pour(1, 1);
        x.pour(2, 1);
        x.pour(3, 2);
        x.pour(4, 2);
        // MEAN, LABEL: 5 of new wine, 3 empty; MEASURES: 3 of 1, 2 of 2, 3 of 0.
        DUE.is("taste(0)", x.taste(0), 1);
        DUE.is("taste(1)", x.taste(1), 3);
    }

    // ---- Promise 35: image

    static void p35TheImagesAreNoughtAndOne() {
        WATCH.accepted("image(0)", Made::busy, x -> x.image(0), 0);
        WATCH.accepted("image(1)", Made::busy, x -> x.image(1), 0);
        for (int k : new int[] {-1, 2, LEAST, MOST}) {
            WATCH.refused("image(" + k + ")", Made::busy, x -> x.image(k), -1);
        }
    }

    static void p35AnEmptyCellarIsKeptToo() {
        SoleraCellar x = new SoleraCellar();
        x.image(1);
        x.cask(0, 9);
        DUE.is("back(1)", x.back(1), 0);
        DUE.is("count(0)", x.count(0), 0);
        DUE.is("back(0)", x.back(0), -2);
    }

    static void p35TheLatestIsKept() {
        SoleraCellar x = Made.cellar(0, 9);
        x.image(0);
        x.pour(0, 2);
        x.image(0);
        x.pour(0, 3);
        x.back(0);
        DUE.is("of(0, 2)", x.of(0, 2), 2000);
    }

    static void p35ARefusedOneKeepsNothing() {
        SoleraCellar x = Made.cellar(0, 9);
        x.image(0);
        x.pour(0, 2);
        x.image(2);
        x.image(-1);
        x.back(0);
        DUE.is("of(0, 2)", x.of(0, 2), 0);
        DUE.is("back(1)", x.back(1), -2);
    }

    // ---- Promise 36: back

    static void p36TheImagesAreNoughtAndOne() {
        for (int k : new int[] {-1, 2, LEAST, MOST}) {
            WATCH.refused("back(" + k + ")", Made::busy, x -> x.back(k), -1);
            WATCH.refused("back(" + k + ") with none kept", () -> Made.cellar(0, 9), x -> x.back(k), -1);
        }
    }

    static void p36ItWasNotKept() {
        WATCH.refused("back(1)", Made::busy, x -> x.back(1), -2);
        WATCH.refused("back(0)", () -> Made.cellar(0, 9), x -> x.back(0), -2);
    }

    /** All that an image keeps is other than at first. */
    private static SoleraCellar full() {
        SoleraCellar x = Made.cellar(0, 9, 1, 8);
        x.terms(0, 7);
        x.terms(1, 6);
        x.terms(2, 5);
        x.terms(3, 4);
        x.pour(0, 5);
        x.pass();
        x.bottle(0, 2);
        x.tasted(1, 3);
        x.tasted(0, 1);
        Due.law(x, "loses 3");
        Due.law(x, "loses 5");
        Due.plan(x, "bottle 1 from 0");
        x.force(1);
        return x;
    }

    private static void isFull(String when, SoleraCellar x) {
        int[] counts = {2, 2, 2, 2, 1};
        for (int what = 0; what < 5; what++) {
            DUE.is("count(" + what + ") " + when, x.count(what), counts[what]);
        }
        int[] others = {1, 8, 6, 5, 4};
        for (int what = 12; what < 17; what++) {
            DUE.is("count(" + what + ") " + when, x.count(what), others[what - 12]);
        }
        int[] casks = {0, 9, 3000, 1000, 1, 5, 999, 0, 0, 3000};
        for (int what = 0; what < casks.length; what++) {
            DUE.is("of(0, " + what + ") " + when, x.of(0, what), casks[what]);
        }
        DUE.is("of(1, 0) " + when, x.of(1, 0), 1);
        DUE.is("of(1, 1) " + when, x.of(1, 1), 8);
        DUE.is("of(1, 2) " + when, x.of(1, 2), 0);
        DUE.is("of(2, 0) " + when, x.of(2, 0), NONE);
        DUE.is("canBe() " + when, x.canBe(), 1);
        DUE.is("compare(0, 0) " + when, x.compare(0, 0), 9);
        DUE.is("compare(1, 0) " + when, x.compare(1, 0), 15);
        DUE.is("yields(0, 9) " + when, x.yields(0, 9), 2);
    }

    private static void change(SoleraCellar x) {
        x.forget();
        x.tasted(2, 9);
        x.force(0);
        x.pour(1, 4);
        x.rack(1, 0, 2);
        x.bottle(0, 1);
        x.pass();
        x.cask(3, 3);
        x.terms(1, 1);
        x.terms(2, 1);
        x.terms(3, 1);
        Due.law(x, "loses 99");
        Due.plan(x, "pass");
    }

    static void p36AllThatItKeepsIsAsItWas() {
        SoleraCellar x = full();
        isFull("at first", x);
        x.image(0);
        change(x);
        DUE.is("back(0)", x.back(0), 0);
        DUE.is("status()", x.status(), 0);
        isFull("behind back()", x);
    }

    static void p36ToNothingAndToAllAgain() {
        SoleraCellar x = new SoleraCellar();
        x.image(0);
        SoleraCellar y = full();
        y.image(1);
        x.back(0);
        DUE.is("count(0) of nothing", x.count(0), 0);
        change(y);
        y.image(0);
        y.back(1);
        isFull("behind back(1)", y);
        y.back(0);
        DUE.is("count(0) behind back(0)", y.count(0), 3);
        DUE.is("count(3) behind back(0)", y.count(3), 3);
        y.back(1);
        isFull("behind back(1) again", y);
    }

    static void p36TheImagesStay() {
        SoleraCellar x = full();
        x.image(0);
        change(x);
        x.back(0);
        change(x);
        x.back(0);
        isFull("the second time", x);
        DUE.is("the other is not kept still", x.back(1), -2);
    }

    static void p36ALawThatIsReadBehindItIsNothingToTheImage() {
        SoleraCellar x = Made.under("loses 1", 0, 9);
        x.image(0);
        x.back(0);
        Due.law(x, "loses 2");
        x.image(1);
        x.back(0);
        Due.law(x, "loses 3");
        x.pour(0, 9);
        DUE.is("law 1", x.compare(1, 0), 27);
        x.back(1);
        x.pour(0, 9);
        DUE.is("law 1 of the other image", x.compare(1, 0), 18);
    }

    static void p36APlanThatIsReadBehindItIsNothingToTheImage() {
        SoleraCellar x = Made.cellar(0, 9);
        x.pour(0, 9);
        x.image(0);
        Due.plan(x, "bottle 2 from 0");
        x.image(1);
        x.back(0);
        DUE.is("plan 0 is gone", x.yields(0, 1), NONE);
        DUE.is("plan()", Due.plan(x, "bottle 3 from 0"), 0);
        DUE.is("yields(0, 1)", x.yields(0, 1), 3);
        x.back(1);
        DUE.is("yields(0, 1) of the image", x.yields(0, 1), 2);
    }

    static void p36NothingCanBeUndoneBehindIt() {
        SoleraCellar x = Made.cellar(0, 9);
        x.pour(0, 1);
        x.image(0);
        DUE.is("image() leaves it", x.count(5), 1);
        x.back(0);
        DUE.is("count(5)", x.count(5), 0);
        DUE.is("undo()", x.undo(), -3);
        DUE.is("of(0, 2)", x.of(0, 2), 1000);
    }

    static void p36WhatImagesDoNotKeep() {
        SoleraCellar x = new SoleraCellar();
        x.image(0);
        x.cask(0, 9);
        Due.row(x, 9, 9);
        Due.orders(x, "pass;pass;pour 0 in 0");
        Due.plan(x, "pass;");
        x.harvests(7, 1);
        x.feed(0, 0, 0, 0, 0);
        x.undo();
        x.back(0);
        DUE.is("the TAPE", x.count(6), 20);
        DUE.is("FAULT", x.fault(), 5);
        DUE.is("LEAKS", x.leaks(), 1);
        DUE.is("where ORDERS stopped", x.stopped(), 2);
        DUE.is("the latest HARVESTS", x.drawn(0, 0), 9000);
        DUE.is("REFUSED by -3", x.count(9), 2);
        DUE.is("REFUSED by -6", x.count(11), 1);
    }

    // ---- Promise 37: count

    static void p37WhatIsNoughtTo16() {
        for (int what : new int[] {-1, 17, LEAST, MOST}) {
            WATCH.asked("count(" + what + ")", Made::busy, x -> x.count(what), NONE);
        }
        int[] counts = {3, 1, 1, 1, 1, 5, 20, 0, 0, 1, 0, 1, 0, 2, 2, 3, 85};
        SoleraCellar x = Made.busy();
        for (int what = 0; what < counts.length; what++) {
            DUE.is("count(" + what + ")", x.count(what), counts[what]);
        }
    }

    static void p37TheMostOfEach() {
        SoleraCellar x = Made.eight(0, 999);
        for (int n = 0; n < 6; n++) {
            x.tasted(0, 0);
            Due.law(x, "bars if 1=2");
            Due.plan(x, "pass");
            x.feed(0, 0, 0, 0, 0);
        }
        x.terms(0, 999);
        x.terms(1, 10);
        x.terms(2, 9);
        x.terms(3, 100);
        for (int n = 0; n < 17; n++) {
            x.pour(0, 1);
        }
        x.force(5);
        Due.put(x, new byte[400]);
        int[] counts = {8, 0, 6, 6, 4, 16, 400, 0, 0, 0, 2, 0, 5, 999, 10, 9, 100};
        for (int what = 0; what < counts.length; what++) {
            DUE.is("count(" + what + ")", x.count(what), counts[what]);
        }
    }

    static void p37EachRefusalIsCountedOnce() {
        SoleraCellar x = Made.eight(0, 9);
        for (int n = 1; n <= 3; n++) {
            x.pour(0, 0);
            x.pour(8, 1);
            x.bottle(0, 1);
            x.cask(0, 1);
            x.orders();
            for (int what = 7; what <= 11; what++) {
                DUE.is("count(" + what + ")", x.count(what), n);
            }
        }
    }

    static void p37ImagesDoNotKeepTheRefusals() {
        SoleraCellar x = Made.eight(0, 9);
        x.image(0);
        x.pour(0, 0);
        x.pour(8, 1);
        x.bottle(0, 1);
        x.cask(0, 1);
        x.orders();
        x.back(0);
        for (int what = 7; what <= 11; what++) {
            DUE.is("count(" + what + ")", x.count(what), 1);
        }
    }

    static void p37WhatOrdersAndPlansAreRefusedByWithinIsNotCounted() {
        SoleraCellar x = Made.planned("pour 0 in 0;pour 1 in 7;bottle 9 from 0", 0, 9);
        x.starves(0);
        Due.orders(x, "pour 0 in 0");
        Due.orders(x, "pour 1 in 7");
        x.harvests(123, 1);
        DUE.is("count(7)", x.count(7), 0);
        DUE.is("count(8)", x.count(8), 0);
        DUE.is("count(9)", x.count(9), 2);
    }

    // ---- Promise 38: status

    static void p38AheadOfAny() {
        DUE.is("status()", new SoleraCellar().status(), 0);
    }

    /** Behind a call that was REFUSED by another number each call that is not REFUSED tells 0. */
    private static void done(String call, ToLongFunction<SoleraCellar> made) {
        SoleraCellar x = Made.busy();
        x.force(9);
        DUE.is("status() ahead of " + call, x.status(), -2);
        made.applyAsLong(x);
        DUE.is("status() behind " + call, x.status(), 0);
    }

    static void p38NoughtBehindEachThatWasNotRefused() {
        done("cask", x -> x.cask(0, 1));
        done("terms", x -> x.terms(0, 1));
        done("row", SoleraCellar::row);
        done("law", x -> Due.law(x, "bars"));
        done("plan", x -> Due.plan(x, "pass"));
        done("orders", x -> Due.orders(x, "pass"));
        done("force", x -> x.force(NONE));
        done("pour", x -> x.pour(0, 1));
        done("rack", x -> x.rack(2, 1, 1));
        done("bottle", x -> x.bottle(0, 1));
        done("pass", SoleraCellar::pass);
        done("undo", SoleraCellar::undo);
        done("tasted", x -> x.tasted(0, 0));
        done("harvests", x -> x.harvests(0, 1));
        done("image", x -> x.image(0));
        done("back", x -> x.back(0));
    }

    private static void refused(String call, int by, ToLongFunction<SoleraCellar> made) {
        SoleraCellar x = Made.busy();
        x.force(0);
        DUE.is("status() ahead of " + call, x.status(), 0);
        made.applyAsLong(x);
        DUE.is("status() behind " + call, x.status(), by);
    }

    static void p38WhatEachWasRefusedBy() {
        refused("cask", -1, x -> x.cask(5, 1));
        refused("terms", -1, x -> x.terms(4, 1));
        refused("row", -6, x -> x.end(0) + x.row());
        refused("law", -6, x -> Due.law(x, "bar"));
        refused("plan", -6, x -> Due.plan(x, "pas"));
        refused("orders by a text", -6, x -> Due.orders(x, "pas"));
        refused("orders by one that can't be", -3, x -> Due.orders(x, "pour 0 in 9"));
        refused("force", -2, x -> x.force(9));
        refused("pour by a number", -1, x -> x.pour(0, 0));
        refused("pour by a cask", -2, x -> x.pour(9, 1));
        refused("pour by what stands", -3, x -> x.pour(0, 999));
        refused("rack by a number", -1, x -> x.rack(2, 1, 0));
        refused("rack by a cask", -2, x -> x.rack(2, 9, 1));
        refused("rack by what stands", -3, x -> x.rack(1, 2, 1));
        refused("bottle by a number", -1, x -> x.bottle(0, 0));
        refused("bottle by a cask", -2, x -> x.bottle(9, 1));
        refused("bottle by what stands", -3, x -> x.bottle(1, 1));
        refused("pass", -3, x -> x.terms(0, 999) + x.pass());
        refused("undo", -3, x -> x.terms(0, 999) + x.undo());
        refused("tasted", -1, x -> x.tasted(3, 0));
        refused("harvests", -1, x -> x.harvests(0, 0));
        refused("image", -1, x -> x.image(2));
        refused("back by a number", -1, x -> x.back(2));
        refused("back by an image", -2, x -> x.back(1));
    }

    static void p38NoRoom() {
        SoleraCellar x = Made.eight(0, 9);
        x.cask(0, 9);
        DUE.is("cask", x.status(), -5);
        x.force(NONE);
        for (int n = 0; n < 7; n++) {
            Due.law(x, "bars if 1=2");
            DUE.is("law " + n, x.status(), n < 6 ? 0 : -5);
        }
        for (int n = 0; n < 5; n++) {
            Due.plan(x, "pass");
            DUE.is("plan " + n, x.status(), n < 4 ? 0 : -5);
        }
        for (int n = 0; n < 7; n++) {
            x.tasted(0, 0);
            DUE.is("tasted " + n, x.status(), n < 6 ? 0 : -5);
        }
    }

    static void p38AllOthersLeaveIt() {
        WATCH.asked("leaks", Made::busy, SoleraCellar::leaks, 1);
        WATCH.asked("fault", Made::busy, SoleraCellar::fault, 5);
        WATCH.asked("stopped", Made::busy, SoleraCellar::stopped, 1);
        WATCH.asked("old", Made::busy, x -> x.old(0, 2), 1_000_000_000_000L);
        WATCH.asked("old of none", Made::busy, x -> x.old(9, 2), NONE);
        WATCH.asked("few", Made::busy, x -> x.few(1, 1), 800_000_000_000L);
        WATCH.asked("few of none", Made::busy, x -> x.few(0, 1), NONE);
        WATCH.asked("drawn of none", Made::busy, x -> x.drawn(9, 9), NONE);
        WATCH.asked("end", Made::busy, x -> x.end(999), NONE);
        WATCH.asked("status", Made::busy, SoleraCellar::status, -1);
        WATCH.asked("count", Made::busy, x -> x.count(0), 3);
    }

    static void p38AnAnswerBelowNoughtIsNotAlwaysARefusal() {
        SoleraCellar x = new SoleraCellar();
        x.image(9);
        DUE.is("force(NONE)", x.force(NONE), NONE);
        DUE.is("status()", x.status(), 0);
        DUE.is("count(7)", x.count(7), 1);
        DUE.is("count(8)", x.count(8), 0);
    }
}
