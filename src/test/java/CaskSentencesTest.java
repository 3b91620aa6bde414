/**
 * The boundary cases of a new object, of casks and terms (promises 1 to 5) and of the works that are
 * done in the cellar and undone (16 to 20): a test for each sentence, named by its promise.
 */
public final class CaskSentencesTest {
    private static final Due DUE = new Due();
    private static final Watch WATCH = new Watch(DUE);
    private static final int NONE = SoleraCellar.NONE;
    private static final int LEAST = Integer.MIN_VALUE;
    private static final int MOST = Integer.MAX_VALUE;
    private static final long WHOLE = 1_000_000_000_000L;

    public static void main(String[] args) {
        Sentences.run(CaskSentencesTest.class, DUE, 1, 2, 3, 4, 5, 16, 17, 18, 19, 20);
    }

    // ---- Promise 1: a new object

    static void p01ThereAreNoCasks() {
        SoleraCellar x = new SoleraCellar();
        DUE.is("count(0)", x.count(0), 0);
        for (int cask = -1; cask <= 8; cask++) {
            DUE.is("of(" + cask + ", 0)", x.of(cask, 0), NONE);
        }
    }

    static void p01NothingIsBottledTastedReadOrFed() {
        SoleraCellar x = new SoleraCellar();
        for (int what = 1; what <= 6; what++) {
            DUE.is("count(" + what + ")", x.count(what), 0);
        }
        DUE.is("fault()", x.fault(), NONE);
        DUE.is("stopped()", x.stopped(), NONE);
        DUE.is("leaks()", x.leaks(), 0);
    }

    static void p01NothingWasRefused() {
        SoleraCellar x = new SoleraCellar();
        for (int what = 7; what <= 11; what++) {
            DUE.is("count(" + what + ")", x.count(what), 0);
        }
        DUE.is("status()", x.status(), 0);
    }

    static void p01NoLawIsInForceAtFirst() {
        SoleraCellar x = new SoleraCellar();
        DUE.is("count(12)", x.count(12), NONE);
        DUE.is("force(NONE) tells which was", x.force(NONE), NONE);
    }

    static void p01TheTermsAreAsToldAtFirst() {
        SoleraCellar x = new SoleraCellar();
        int[] first = {0, 1, 0, 85};
        for (int what = 0; what < 4; what++) {
            DUE.is("count(" + (13 + what) + ")", x.count(13 + what), first[what]);
        }
    }

    static void p01NothingCanBeUndoneGoneBackToOrDrawn() {
        SoleraCellar x = new SoleraCellar();
        DUE.is("undo()", x.undo(), -3);
        DUE.is("back(0)", x.back(0), -2);
        DUE.is("back(1)", x.back(1), -2);
        DUE.is("drawn(0, 0)", x.drawn(0, 0), NONE);
        DUE.is("canBe()", x.canBe(), 0);
        DUE.is("forget()", x.forget(), 0);
    }

    static void p01OneObjectKnowsNothingOfAnother() {
        SoleraCellar x = Made.busy();
        SoleraCellar y = new SoleraCellar();
        DUE.is("count(0) of the one", x.count(0), 3);
        DUE.is("count(0) of the other", y.count(0), 0);
        DUE.is("count(3) of the other", y.count(3), 0);
        DUE.is("back(0) of the other", y.back(0), -2);
    }

    // ---- Promise 2: cask

    static void p02TheTierIsNoughtToFour() {
        DUE.is("cask(0, 9)", new SoleraCellar().cask(0, 9), 0);
        SoleraCellar x = Made.cellar(4, 9);
        DUE.is("of(0, 0)", x.of(0, 0), 4);
        for (int tier : new int[] {-1, 5, LEAST, MOST}) {
            WATCH.refused("cask(" + tier + ", 9)", Made::busy, y -> y.cask(tier, 9), -1);
        }
    }

    static void p02TheSizeIsOneTo999() {
        SoleraCellar x = Made.cellar(0, 1, 0, 999);
        DUE.is("of(0, 1)", x.of(0, 1), 1);
        DUE.is("of(1, 1)", x.of(1, 1), 999);
        for (int size : new int[] {0, 1000, -1, LEAST, MOST}) {
            WATCH.refused("cask(0, " + size + ")", Made::busy, y -> y.cask(0, size), -1);
        }
    }

    static void p02TheNumbersGoFromNoughtToSeven() {
        SoleraCellar x = new SoleraCellar();
        for (int cask = 0; cask < 8; cask++) {
            DUE.is("cask(" + cask % 5 + ", 5)", x.cask(cask % 5, 5), cask);
        }
        DUE.is("count(0)", x.count(0), 8);
    }

    static void p02ForANinthThereIsNoRoom() {
        WATCH.refused("a ninth", () -> Made.eight(0, 9), x -> x.cask(4, 999), -5);
        WATCH.refused("a ninth that can be undone behind it", () -> {
            SoleraCellar x = Made.eight(0, 9);
            x.pour(7, 3);
            return x;
        }, x -> x.cask(0, 1), -5);
    }

    static void p02ANumberThatCantBeIsToldAheadOfNoRoom() {
        WATCH.refused("cask(5, 1) as a ninth", () -> Made.eight(0, 9), x -> x.cask(5, 1), -1);
        WATCH.refused("cask(0, 0) as a ninth", () -> Made.eight(0, 9), x -> x.cask(0, 0), -1);
    }

    static void p02ItIsEmpty() {
        SoleraCellar x = Made.cellar(3, 7);
        for (int what = 8; what <= 27; what++) {
            DUE.is("of(0, " + what + ")", x.of(0, what), 0);
        }
        DUE.is("of(0, 2)", x.of(0, 2), 0);
        DUE.is("of(0, 3)", x.of(0, 3), NONE);
    }

    static void p02ItIsEmptyWhereAnotherStoodOnce() {
        SoleraCellar x = new SoleraCellar();
        x.image(0);
        x.cask(0, 9);
        x.pour(0, 5);
        x.pass();
        x.back(0);
        DUE.is("cask(1, 8)", x.cask(1, 8), 0);
        DUE.is("of(0, 2)", x.of(0, 2), 0);
        DUE.is("of(0, 3)", x.of(0, 3), NONE);
        DUE.is("of(0, 9)", x.of(0, 9), 0);
        DUE.is("pour(0, 8)", x.pour(0, 8), 8);
        DUE.is("of(0, 3) of what is poured", x.of(0, 3), 0);
    }

    static void p02NothingAheadOfItCanBeUndone() {
        SoleraCellar x = Made.busy();
        DUE.is("count(5)", x.count(5), 5);
        DUE.is("cask(0, 1)", x.cask(0, 1), 3);
        DUE.is("status()", x.status(), 0);
        DUE.is("count(5) then", x.count(5), 0);
        DUE.is("undo()", x.undo(), -3);
    }

    // ---- Promise 3: of

    static void p03WhatIsNoughtTo27() {
        for (int what : new int[] {-1, 28, LEAST, MOST}) {
            WATCH.asked("of(0, " + what + ")", Made::busy, x -> x.of(0, what), NONE);
        }
        SoleraCellar x = Made.cellar(0, 9);
        x.pour(0, 9);
        Made.pass(x, 19);
        DUE.is("of(0, 27)", x.of(0, 27), 9000);
        DUE.is("of(0, 0)", x.of(0, 0), 0);
    }

    static void p03WithoutSuchACask() {
        for (int cask : new int[] {-1, 3, 7, 8, LEAST, MOST}) {
            for (int what : new int[] {0, 5, 27}) {
                WATCH.asked("of(" + cask + ", " + what + ")", Made::busy, x -> x.of(cask, what), NONE);
            }
        }
        SoleraCellar x = Made.eight(2, 9);
        DUE.is("of(7, 0)", x.of(7, 0), 2);
        DUE.is("of(8, 0)", x.of(8, 0), NONE);
    }

    static void p03MeanAndLabelOfAnEmptyOneAreNone() {
        SoleraCellar x = Made.cellar(0, 9);
        DUE.is("of(0, 3)", x.of(0, 3), NONE);
        DUE.is("of(0, 4)", x.of(0, 4), NONE);
        x.pour(0, 9);
        DUE.is("MEAN of new wine", x.of(0, 3), 0);
        DUE.is("LABEL of new wine", x.of(0, 4), 0);
        x.bottle(0, 9);
        DUE.is("of(0, 3) when it is empty again", x.of(0, 3), NONE);
        DUE.is("of(0, 4) when it is empty again", x.of(0, 4), NONE);
    }

    static void p03OneDropIsNotEmpty() {
        SoleraCellar x = Made.oneDropOver();
        DUE.is("bottle(0, 26)", x.bottle(0, 26), 1000);
        DUE.is("of(0, 2)", x.of(0, 2), 1);
        DUE.is("of(0, 3)", x.of(0, 3), 1000);
        DUE.is("of(0, 4)", x.of(0, 4), 1);
        DUE.is("of(0, 9)", x.of(0, 9), 1);
    }

    static void p03TheMeanIsCut() {
        SoleraCellar x = Made.cellar(0, 9);
        x.pour(0, 2);
        x.pass();
        x.pour(0, 1);
        DUE.is("two of three are 1", x.of(0, 3), 666);
        SoleraCellar y = Made.cellar(0, 999);
        y.pour(0, 999);
        Made.pass(y, 19);
        DUE.is("a full one of the oldest", y.of(0, 3), 19_000);
    }

    static void p03TheLabelHasAsManyOrMore() {
        SoleraCellar x = Made.cellar(0, 200);
        x.pour(0, 85);
        x.pass();
        x.pour(0, 15);
        DUE.is("just 85 of 100", x.of(0, 4), 1);
        x.pour(0, 1);
        DUE.is("85 of 101", x.of(0, 4), 0);
    }

    static void p03TheLabelOfOneDropFewer() {
        SoleraCellar x = Made.oneDropShort(0);
        x.pour(0, 1);
        x.terms(3, 50);
        DUE.is("999 of 1999 are not half of it", x.of(0, 4), 0);
        x.terms(3, 49);
        DUE.is("but 49 of 100", x.of(0, 4), 1);
    }

    static void p03TheLabelWithPartOneAndPart100() {
        SoleraCellar x = Made.cellar(0, 200);
        x.pour(0, 1);
        x.pass();
        x.pour(0, 99);
        x.terms(3, 1);
        DUE.is("PART 1: 1 of 100", x.of(0, 4), 1);
        x.pour(0, 1);
        DUE.is("PART 1: 1 of 101", x.of(0, 4), 0);
        SoleraCellar y = Made.oneDropOver();
        y.bottle(0, 26);
        y.terms(3, 100);
        DUE.is("PART 100: all", y.of(0, 4), 1);
        y.pour(0, 26);
        DUE.is("PART 100: not all", y.of(0, 4), 0);
    }

    static void p03TheLabelIsNoughtTo19() {
        SoleraCellar x = Made.cellar(0, 9);
        x.pour(0, 9);
        for (int year = 1; year <= 21; year++) {
            x.pass();
            DUE.is("after " + year, x.of(0, 4), Math.min(year, 19));
        }
    }

    static void p03TheLabelIsTheMostAge() {
        SoleraCellar x = Made.cellar(0, 99);
        x.terms(3, 50);
        x.pour(0, 20);
        Made.pass(x, 2);
        x.pour(0, 10);
        Made.pass(x, 3);
        x.pour(0, 10);
        DUE.is("20 of 40 are 5", x.of(0, 4), 5);
        x.terms(3, 51);
        DUE.is("30 of 40 are 3", x.of(0, 4), 3);
        x.terms(3, 75);
        DUE.is("just 75 of 100", x.of(0, 4), 3);
        x.terms(3, 76);
        DUE.is("76 of 100", x.of(0, 4), 0);
    }

    private static void tells(String law, int what, int want) {
        DUE.is("of(0, " + what + ") by '" + law + "'", Made.under(law, 0, 9).of(0, what), want);
    }

    static void p03ItLosesNoughtTo99() {
        tells("loses 99", 5, 99);
        tells("loses 100", 5, 99);
        tells("loses 1000*1000*1000", 5, 99);
        tells("loses 0", 5, 0);
        tells("loses 0-1", 5, 0);
        tells("loses 0-1000*1000*1000", 5, 0);
        tells("loses 1", 5, 1);
    }

    static void p03ItYieldsNoughtTo999() {
        tells("yields 999", 6, 999);
        tells("yields 1000", 6, 999);
        tells("yields 998", 6, 998);
        tells("yields 0", 6, 0);
        tells("yields 0-1", 6, 0);
        tells("yields 1", 6, 1);
    }

    static void p03WithoutALawThatHolds() {
        SoleraCellar x = Made.cellar(0, 9);
        DUE.is("LOSES by no law", x.of(0, 5), 0);
        DUE.is("YIELDS by no law", x.of(0, 6), 999);
        DUE.is("BARRED by no law", x.of(0, 7), 0);
        tells("bars if 1=2", 7, 0);
        tells("bars if 1/0=1", 7, 0);
        tells("bars", 7, 1);
        tells("bars", 5, 0);
        tells("bars", 6, 999);
        tells("yields 5", 5, 0);
        tells("yields 5", 7, 0);
        tells("loses 5", 6, 999);
        tells("yields 5 if 1=2", 6, 999);
        tells("yields 1/0", 6, 999);
    }

    static void p03TheLastThatHoldsTells() {
        tells("loses 5;loses 6", 5, 6);
        tells("loses 5;loses 6 if 1=2", 5, 5);
        tells("loses 5;loses 6/0", 5, 5);
        tells("loses 5;loses 6 if 1/0=1", 5, 5);
        tells("yields 5;yields 6;bars", 6, 6);
        tells("yields 5;yields 6 if 1=2;loses 9", 6, 5);
        tells("bars;bars if 1=2", 7, 1);
        tells("bars if 1=2;bars", 7, 1);
    }

    static void p03NineteenAre19YearsOrMore() {
        SoleraCellar x = Made.cellar(0, 9);
        x.pour(0, 1);
        x.pass();
        x.pour(0, 2);
        Made.pass(x, 18);
        DUE.is("AGE 18", x.of(0, 26), 2000);
        DUE.is("AGE 19", x.of(0, 27), 1000);
        x.pass();
        DUE.is("AGE 18 then", x.of(0, 26), 0);
        DUE.is("AGE 19 then", x.of(0, 27), 3000);
        DUE.is("MEAN then", x.of(0, 3), 19_000);
    }

    // ---- Promise 4: old

    static void p04TheAgeIsNoughtTo19() {
        SoleraCellar x = Made.cellar(0, 9);
        x.pour(0, 1);
        DUE.is("old(0, 0)", x.old(0, 0), WHOLE);
        DUE.is("old(0, 19)", x.old(0, 19), 0);
        Made.pass(x, 19);
        DUE.is("old(0, 19) of the oldest", x.old(0, 19), WHOLE);
        for (int a : new int[] {-1, 20, LEAST, MOST}) {
            WATCH.asked("old(0, " + a + ")", Made::busy, y -> y.old(0, a), NONE);
        }
    }

    static void p04OfAnEmptyOneOrNone() {
        SoleraCellar x = Made.cellar(0, 9);
        DUE.is("old(0, 0) of an empty one", x.old(0, 0), NONE);
        DUE.is("old(0, 19) of an empty one", x.old(0, 19), NONE);
        for (int cask : new int[] {-1, 3, 8, LEAST, MOST}) {
            WATCH.asked("old(" + cask + ", 0)", Made::busy, y -> y.old(cask, 0), NONE);
        }
    }

    static void p04ThePartsAreCut() {
        SoleraCellar x = Made.cellar(0, 9);
        x.pour(0, 2);
        x.pass();
        x.pour(0, 1);
        DUE.is("two of three", x.old(0, 1), 666_666_666_666L);
        SoleraCellar y = Made.oneDropOver();
        y.bottle(0, 26);
        y.pour(0, 26);
        DUE.is("one drop of 26,001", y.old(0, 1), 38_460_059L);
        DUE.is("all of 26,001", y.old(0, 0), WHOLE);
    }

    static void p04OfOneDrop() {
        SoleraCellar x = Made.oneDropOver();
        x.bottle(0, 26);
        DUE.is("old(0, 0)", x.old(0, 0), WHOLE);
        DUE.is("old(0, 1)", x.old(0, 1), WHOLE);
        DUE.is("old(0, 2)", x.old(0, 2), 0);
    }

    static void p04TheDropsOfItsNeighboursAreNotItsOwn() {
        SoleraCellar x = Made.cellar(0, 9, 0, 9, 0, 9);
        x.pour(0, 4);
        x.pour(1, 1);
        x.pass();
        x.pour(1, 1);
        x.pour(2, 4);
        for (int a = 2; a < 20; a++) {
            DUE.is("old(1, " + a + ")", x.old(1, a), 0);
        }
        DUE.is("old(1, 1)", x.old(1, 1), WHOLE / 2);
        DUE.is("old(1, 0)", x.old(1, 0), WHOLE);
        DUE.is("old(0, 1)", x.old(0, 1), WHOLE);
        DUE.is("old(2, 1)", x.old(2, 1), 0);
    }

    static void p04OfAFullOneOfTheMostSize() {
        SoleraCellar x = Made.cellar(0, 999);
        x.pour(0, 998);
        x.pass();
        x.pour(0, 1);
        DUE.is("old(0, 0)", x.old(0, 0), WHOLE);
        DUE.is("old(0, 1)", x.old(0, 1), 998_998_998_998L);
    }

    // ---- Promise 5: terms

    static void p05EachTermHasItsLeastAndItsMost() {
        int[] least = {0, 0, 0, 1};
        int[] most = {999, 10, 9, 100};
        for (int what = 0; what < 4; what++) {
            int term = what;
            SoleraCellar x = new SoleraCellar();
            int was = x.count(13 + what);
            DUE.is("terms(" + what + ") to the least", x.terms(what, least[what]), was);
            DUE.is("the least", x.count(13 + what), least[what]);
            DUE.is("terms(" + what + ") to the most", x.terms(what, most[what]), least[what]);
            DUE.is("the most", x.count(13 + what), most[what]);
            for (int value : new int[] {least[what] - 1, most[what] + 1, LEAST, MOST}) {
                WATCH.refused("terms(" + what + ", " + value + ")", Made::busy, y -> y.terms(term, value), -1);
            }
        }
    }

    static void p05ThereAreFourTerms() {
        for (int what : new int[] {-1, 4, LEAST, MOST}) {
            WATCH.refused("terms(" + what + ", 1)", Made::busy, x -> x.terms(what, 1), -1);
        }
    }

    static void p05ItChangesThatTermAlone() {
        WATCH.accepted("terms(0, 7)", Made::busy, x -> x.terms(0, 7), 2, "count(13)", 7, "count(5)", 0);
        WATCH.accepted("terms(1, 7)", Made::busy, x -> x.terms(1, 7), 2, "count(14)", 7, "count(5)", 0);
        WATCH.accepted("terms(2, 7)", Made::busy, x -> x.terms(2, 7), 3, "count(15)", 7, "count(5)", 0);
        WATCH.accepted("terms(3, 7)", Made::busy, x -> x.terms(3, 7), 85, "count(16)", 7, "count(5)", 0);
    }

    static void p05NothingAheadOfItCanBeUndoneIfItStaysTheSameToo() {
        WATCH.accepted("terms(3, 85)", Made::busy, x -> x.terms(3, 85), 85, "count(5)", 0);
    }

    // ---- Promise 16: pour

    static void p16OneTo999() {
        SoleraCellar x = Made.cellar(0, 999, 0, 999);
        DUE.is("pour(0, 1)", x.pour(0, 1), 1);
        DUE.is("pour(1, 999)", x.pour(1, 999), 999);
        for (int n : new int[] {0, 1000, -1, LEAST, MOST}) {
            WATCH.refused("pour(0, " + n + ")", Made::busy, y -> y.pour(0, n), -1);
        }
    }

    static void p16WithoutSuchACask() {
        for (int cask : new int[] {-1, 3, 8, LEAST, MOST}) {
            WATCH.refused("pour(" + cask + ", 1)", Made::busy, x -> x.pour(cask, 1), -2);
        }
        SoleraCellar x = Made.eight(0, 9);
        DUE.is("pour(7, 1)", x.pour(7, 1), 1);
        DUE.is("pour(8, 1)", x.pour(8, 1), -2);
    }

    static void p16ACaskThatIsGoneByBackIsNone() {
        SoleraCellar x = Made.cellar(0, 9);
        x.image(0);
        x.cask(0, 9);
        DUE.is("pour(1, 1) while it is there", x.pour(1, 1), 1);
        x.back(0);
        DUE.is("pour(1, 1)", x.pour(1, 1), -2);
        DUE.is("pour(0, 1)", x.pour(0, 1), 1);
    }

    static void p16TheFirstOfTheRefusals() {
        WATCH.refused("pour(3, 0)", Made::busy, x -> x.pour(3, 0), -1);
        WATCH.refused("pour(3, 999)", Made::busy, x -> x.pour(3, 999), -2);
        WATCH.refused("pour(0, 999)", Made::busy, x -> x.pour(0, 999), -3);
    }

    static void p16JustTheRoomThereIs() {
        SoleraCellar x = Made.cellar(0, 9);
        DUE.is("pour(0, 10)", x.pour(0, 10), -3);
        DUE.is("pour(0, 9)", x.pour(0, 9), 9);
        DUE.is("pour(0, 1) into a full one", x.pour(0, 1), -3);
        x.bottle(0, 1);
        DUE.is("pour(0, 2)", x.pour(0, 2), -3);
        DUE.is("pour(0, 1)", x.pour(0, 1), 9);
        WATCH.refused("pour(0, 3) with room for 2", () -> {
            SoleraCellar y = Made.cellar(0, 9);
            y.pour(0, 7);
            return y;
        }, y -> y.pour(0, 3), -3);
    }

    static void p16OneDropTooLittleRoom() {
        WATCH.refused("pour(0, 1) with room for 999 drops", Made::oneDropOver, x -> x.pour(0, 1), -3);
        SoleraCellar x = Made.oneDropOver();
        x.bottle(0, 1);
        DUE.is("with room for 1999 drops", x.pour(0, 2), -3);
        DUE.is("one measure", x.pour(0, 1), 26);
    }

    static void p16TheMeasuresAreCut() {
        SoleraCellar x = Made.oneDropShort(0);
        DUE.is("1999 drops", x.pour(0, 1), 1);
        DUE.is("of(0, 2)", x.of(0, 2), 1999);
    }

    static void p16TheDropsAreOfAgeNought() {
        SoleraCellar x = Made.oneDropShort(0);
        x.pour(0, 3);
        DUE.is("AGE 0", x.of(0, 8), 3000);
        DUE.is("AGE 1", x.of(0, 9), 999);
    }

    static void p16IntoABarredCaskOfAnyTierThatYieldsNothing() {
        for (int tier = 0; tier < 5; tier++) {
            DUE.is("pour(0, 5) into TIER " + tier, Made.under("bars;yields 0", tier, 9).pour(0, 5), 5);
        }
    }

    static void p16ItCanBeUndone() {
        WATCH.accepted("pour(0, 1) behind nothing", () -> Made.cellar(0, 1), x -> x.pour(0, 1), 1,
            "count(5)", 1, "of(0, 2)", 1000, "of(0, 3)", 0, "of(0, 4)", 0);
    }

    // ---- Promise 17: rack

    private static SoleraCellar pair(int upper, int lower) {
        SoleraCellar x = Made.cellar(upper, 999, lower, 999);
        x.pour(0, 999);
        return x;
    }

    static void p17OneTo999() {
        DUE.is("rack(0, 1, 1)", pair(1, 0).rack(0, 1, 1), 0);
        SoleraCellar x = pair(1, 0);
        DUE.is("rack(0, 1, 999)", x.rack(0, 1, 999), 0);
        DUE.is("all of it", x.of(1, 2), 999_000);
        DUE.is("nothing is left", x.of(0, 2), 0);
        for (int n : new int[] {0, 1000, -1, LEAST, MOST}) {
            WATCH.refused("rack(2, 1, " + n + ")", Made::busy, y -> y.rack(2, 1, n), -1);
        }
    }

    static void p17WithoutSuchACask() {
        for (int cask : new int[] {-1, 3, 8, LEAST, MOST}) {
            WATCH.refused("rack(" + cask + ", 1, 1)", Made::busy, x -> x.rack(cask, 1, 1), -2);
            WATCH.refused("rack(2, " + cask + ", 1)", Made::busy, x -> x.rack(2, cask, 1), -2);
        }
    }

    static void p17TheFirstOfTheRefusals() {
        WATCH.refused("rack(3, 9, 0)", Made::busy, x -> x.rack(3, 9, 0), -1);
        WATCH.refused("rack(2, 3, 999)", Made::busy, x -> x.rack(2, 3, 999), -2);
        WATCH.refused("rack(3, 2, 999)", Made::busy, x -> x.rack(3, 2, 999), -2);
        WATCH.refused("rack(2, 1, 999)", Made::busy, x -> x.rack(2, 1, 999), -3);
    }

    static void p17IntoTheTierOneLess() {
        for (int upper = 0; upper < 5; upper++) {
            for (int lower = 0; lower < 5; lower++) {
                int from = upper;
                int to = lower;
                if (to == from - 1) {
                    DUE.is("rack from TIER " + from + " to " + to, pair(from, to).rack(0, 1, 3), 0);
                } else {
                    WATCH.refused("rack from TIER " + from + " to " + to, () -> pair(from, to), x -> x.rack(0, 1, 3), -3);
                }
            }
        }
        WATCH.refused("rack into itself", () -> pair(1, 0), x -> x.rack(0, 0, 1), -3);
    }

    private static SoleraCellar pairUnder(String law) {
        SoleraCellar x = pair(1, 0);
        Due.law(x, law);
        x.force(0);
        return x;
    }

    static void p17NeitherOfThemBarred() {
        WATCH.refused("from a BARRED one", () -> pairUnder("bars if cask=0"), x -> x.rack(0, 1, 1), -3);
        WATCH.refused("into a BARRED one", () -> pairUnder("bars if cask=1"), x -> x.rack(0, 1, 1), -3);
        DUE.is("with another one BARRED", pairUnder("bars if cask>1").rack(0, 1, 1), 0);
        DUE.is("with a BROKEN bar", pairUnder("bars if 1/0=0").rack(0, 1, 1), 0);
    }

    static void p17ItYieldsSoMany() {
        DUE.is("all it YIELDS", pairUnder("yields 5").rack(0, 1, 5), 0);
        WATCH.refused("one more", () -> pairUnder("yields 5"), x -> x.rack(0, 1, 6), -3);
        WATCH.refused("of nothing", () -> pairUnder("yields 0"), x -> x.rack(0, 1, 1), -3);
        DUE.is("what the lower one YIELDS is nothing to it", pairUnder("yields 0 if cask=1").rack(0, 1, 999), 0);
    }

    static void p17ThereAreSoMany() {
        SoleraCellar x = Made.cellar(1, 9, 0, 9);
        x.pour(0, 4);
        DUE.is("one more than there are", x.rack(0, 1, 5), -3);
        DUE.is("all there are", x.rack(0, 1, 4), 0);
        DUE.is("out of an empty one", x.rack(0, 1, 1), -3);
        WATCH.refused("out of 999 drops", () -> Made.oneDropShort(1), y -> y.rack(0, 1, 1), -3);
    }

    static void p17ThereIsRoom() {
        SoleraCellar x = Made.cellar(1, 99, 0, 9);
        x.pour(0, 99);
        DUE.is("one more than there is room for", x.rack(0, 1, 10), -3);
        DUE.is("just the room", x.rack(0, 1, 9), 0);
        DUE.is("into a full one", x.rack(0, 1, 1), -3);
        WATCH.refused("room for 999 drops", () -> {
            SoleraCellar y = Made.oneDropOver();
            y.pour(1, 5);
            return y;
        }, y -> y.rack(1, 0, 1), -3);
        SoleraCellar z = Made.oneDropOver();
        z.pour(1, 5);
        z.bottle(0, 1);
        DUE.is("room for 1999 drops", z.rack(1, 0, 1), 961);
    }

    static void p17TheMissingDropsAreOfTheOldestFirst() {
        SoleraCellar x = Made.cellar(1, 99, 0, 99);
        for (int year = 0; year < 20; year++) {
            x.pour(0, 1);
            x.pass();
        }
        x.pour(0, 1);
        // 2000 of AGE 19 and 1000 of each other: 95 and 47 of each, so 12 are missing, of 19 down to 8.
        x.rack(0, 1, 1);
        DUE.is("AGE 19", x.of(1, 27), 96);
        for (int age = 18; age >= 0; age--) {
            DUE.is("AGE " + age, x.of(1, 8 + age), age >= 8 ? 48 : 47);
            DUE.is("left of AGE " + age, x.of(0, 8 + age), age >= 8 ? 952 : 953);
        }
        DUE.is("together", x.of(1, 2), 1000);
        DUE.is("left together", x.of(0, 2), 20_000);
    }

    static void p17NoDropIsOfAnAgeOfWhichNoneAreLeft() {
        SoleraCellar x = Made.cellar(1, 9, 0, 9);
        x.pour(0, 1);
        Made.pass(x, 2);
        x.pour(0, 2);
        Made.pass(x, 2);
        // 1000 of AGE 4, 2000 of AGE 2: 333 and 666, and the one that is missing of AGE 4.
        DUE.is("rack", x.rack(0, 1, 1), 2668);
        for (int age = 0; age < 20; age++) {
            DUE.is("AGE " + age, x.of(1, 8 + age), age == 4 ? 334 : age == 2 ? 666 : 0);
            DUE.is("left of AGE " + age, x.of(0, 8 + age), age == 4 ? 666 : age == 2 ? 1334 : 0);
        }
    }

    static void p17NothingIsMissingWhenAllIsTaken() {
        SoleraCellar x = Made.cellar(1, 9, 0, 9);
        x.pour(0, 1);
        x.pass();
        x.pour(0, 2);
        x.rack(0, 1, 3);
        DUE.is("AGE 1", x.of(1, 9), 1000);
        DUE.is("AGE 0", x.of(1, 8), 2000);
        DUE.is("left", x.of(0, 2), 0);
        DUE.is("MEAN of what is left", x.of(0, 3), NONE);
    }

    static void p17TheMeanOfTheCaskIntoWhichItComes() {
        SoleraCellar x = Made.cellar(1, 9, 0, 9);
        x.pour(0, 2);
        x.pass();
        x.pour(1, 1);
        DUE.is("two of 1, one of 0, cut", x.rack(0, 1, 2), 666);
        DUE.is("of(1, 3)", x.of(1, 3), 666);
    }

    static void p17AFullOneIntoAFullOne() {
        SoleraCellar x = pair(1, 0);
        Made.pass(x, 19);
        DUE.is("rack(0, 1, 999)", x.rack(0, 1, 999), 19_000);
        DUE.is("of(1, 27)", x.of(1, 27), 999_000);
    }

    // ---- Promise 18: bottle

    static void p18OneTo999() {
        SoleraCellar x = Made.cellar(0, 999);
        x.pour(0, 999);
        DUE.is("bottle(0, 1)", x.bottle(0, 1), 0);
        DUE.is("BOTTLED", x.count(1), 1);
        x.pour(0, 1);
        DUE.is("bottle(0, 999)", x.bottle(0, 999), 0);
        DUE.is("BOTTLED then", x.count(1), 1000);
        for (int n : new int[] {0, 1000, -1, LEAST, MOST}) {
            WATCH.refused("bottle(0, " + n + ")", Made::busy, y -> y.bottle(0, n), -1);
        }
    }

    static void p18WithoutSuchACask() {
        for (int cask : new int[] {-1, 3, 8, LEAST, MOST}) {
            WATCH.refused("bottle(" + cask + ", 1)", Made::busy, x -> x.bottle(cask, 1), -2);
        }
    }

    static void p18TheFirstOfTheRefusals() {
        WATCH.refused("bottle(3, 0)", Made::busy, x -> x.bottle(3, 0), -1);
        WATCH.refused("bottle(3, 999)", Made::busy, x -> x.bottle(3, 999), -2);
        WATCH.refused("bottle(0, 999)", Made::busy, x -> x.bottle(0, 999), -3);
    }

    private static SoleraCellar five(int tier) {
        SoleraCellar x = Made.cellar(tier, 9);
        x.pour(0, 5);
        return x;
    }

    private static SoleraCellar fiveUnder(String law) {
        SoleraCellar x = five(0);
        Due.law(x, law);
        x.force(0);
        return x;
    }

    static void p18OfTierNoughtAlone() {
        DUE.is("of TIER 0", five(0).bottle(0, 1), 0);
        for (int tier = 1; tier < 5; tier++) {
            int upper = tier;
            WATCH.refused("of TIER " + tier, () -> five(upper), x -> x.bottle(0, 1), -3);
        }
    }

    static void p18NotBarred() {
        WATCH.refused("of a BARRED one", () -> fiveUnder("bars"), x -> x.bottle(0, 1), -3);
        DUE.is("with another BARRED", fiveUnder("bars if cask=1").bottle(0, 1), 0);
    }

    static void p18ItYieldsSoMany() {
        DUE.is("all it YIELDS", fiveUnder("yields 2").bottle(0, 2), 0);
        WATCH.refused("one more", () -> fiveUnder("yields 2"), x -> x.bottle(0, 3), -3);
        WATCH.refused("of nothing", () -> fiveUnder("yields 0"), x -> x.bottle(0, 1), -3);
    }

    static void p18ThereAreSoMany() {
        DUE.is("all", five(0).bottle(0, 5), 0);
        WATCH.refused("one more", () -> five(0), x -> x.bottle(0, 6), -3);
        WATCH.refused("of an empty one", () -> Made.cellar(0, 9), x -> x.bottle(0, 1), -3);
        WATCH.refused("of 999 drops", () -> Made.oneDropShort(0), x -> x.bottle(0, 1), -3);
        DUE.is("26 of 26,001 drops", Made.oneDropOver().bottle(0, 26), 1000);
        WATCH.refused("27 of 26,001 drops", Made::oneDropOver, x -> x.bottle(0, 27), -3);
    }

    static void p18TheMeanIsOfWhatIsTaken() {
        SoleraCellar x = Made.cellar(0, 9);
        x.pour(0, 1);
        x.pass();
        x.pour(0, 2);
        DUE.is("334 of AGE 1, 666 of AGE 0", x.bottle(0, 1), 334);
        DUE.is("what is left: 666 of 2000", x.of(0, 3), 333);
        DUE.is("the rest", x.bottle(0, 2), 333);
    }

    static void p18BottledIsAtMost999999() {
        SoleraCellar x = Made.bottledShortBy(1);
        DUE.is("BOTTLED", x.count(1), 999_998);
        x.pour(0, 2);
        DUE.is("bottle(0, 1)", x.bottle(0, 1), 0);
        DUE.is("just the most", x.count(1), 999_999);
        DUE.is("one more", x.bottle(0, 1), 0);
        DUE.is("status()", x.status(), 0);
        DUE.is("it stays", x.count(1), 999_999);
        DUE.is("the cask is empty", x.of(0, 2), 0);
    }

    static void p18BottledIsCutWithinOneBottling() {
        SoleraCellar x = Made.bottledShortBy(1);
        x.pour(0, 999);
        DUE.is("bottle(0, 999)", x.bottle(0, 999), 0);
        DUE.is("BOTTLED", x.count(1), 999_999);
        DUE.is("undo()", x.undo(), 2);
        DUE.is("BOTTLED is as it was", x.count(1), 999_998);
    }

    // ---- Promise 19: pass

    static void p19At999ItCantBe() {
        SoleraCellar x = Made.cellar(0, 9);
        x.terms(0, 998);
        DUE.is("pass() at 998", x.pass(), 0);
        DUE.is("YEAR", x.count(13), 999);
        WATCH.refused("pass() at 999", () -> {
            SoleraCellar y = Made.busy();
            y.terms(0, 999);
            y.pour(1, 1);
            return y;
        }, SoleraCellar::pass, -3);
    }

    static void p19WithoutCasks() {
        SoleraCellar x = new SoleraCellar();
        DUE.is("pass()", x.pass(), 0);
        DUE.is("YEAR", x.count(13), 1);
        DUE.is("undo()", x.undo(), 3);
        DUE.is("YEAR then", x.count(13), 0);
    }

    static void p19WhatIsLostIsCutForEachAge() {
        SoleraCellar x = Made.oneDropShort(0);
        x.force(0);
        DUE.is("999 drops lose nothing at 1 of 1000", x.pass(), 0);
        x.pour(0, 1);
        DUE.is("999 and 1000 lose one", x.pass(), 1);
        DUE.is("AGE 3", x.of(0, 11), 999);
        DUE.is("AGE 1", x.of(0, 9), 999);
        DUE.is("999 twice lose nothing", x.pass(), 0);
    }

    static void p19TheMostThatIsLost() {
        SoleraCellar x = Made.under("loses 99", 0, 999, 4, 999);
        x.pour(0, 999);
        x.pour(1, 999);
        DUE.is("pass()", x.pass(), 2 * 98_901);
        DUE.is("of(0, 2)", x.of(0, 2), 900_099);
        DUE.is("of(1, 2)", x.of(1, 2), 900_099);
        DUE.is("of(0, 9)", x.of(0, 9), 900_099);
    }

    static void p19ItIsAskedAsAllWasAhead() {
        SoleraCellar x = Made.under("loses 10 if year=0 and mean=0;loses 99 if year=1", 0, 9, 0, 9);
        x.pour(0, 1);
        x.pour(1, 1);
        DUE.is("in YEAR 0", x.pass(), 20);
        DUE.is("in YEAR 1", x.pass(), 2 * 98);
        DUE.is("in YEAR 2", x.pass(), 0);
    }

    static void p19TheOldestStayTheOldest() {
        SoleraCellar x = Made.cellar(0, 9);
        x.pour(0, 1);
        Made.pass(x, 18);
        DUE.is("AGE 18", x.of(0, 26), 1000);
        x.pass();
        DUE.is("AGE 19", x.of(0, 27), 1000);
        x.pass();
        DUE.is("AGE 19 still", x.of(0, 27), 1000);
        DUE.is("DROPS", x.of(0, 2), 1000);
    }

    static void p19OneDropGrowsOlderAndIsNeverLost() {
        SoleraCellar x = Made.oneDropOver();
        x.bottle(0, 26);
        Due.law(x, "loses 99");
        x.force(1);
        DUE.is("pass()", x.pass(), 0);
        DUE.is("of(0, 2)", x.of(0, 2), 1);
        DUE.is("of(0, 10)", x.of(0, 10), 1);
        DUE.is("of(0, 3)", x.of(0, 3), 2000);
    }

    static void p19AtTheOldestTwoAgesLoseEachByItself() {
        SoleraCellar x = Made.under("loses 1 if year>18", 0, 9);
        x.pour(0, 1);
        x.pass();
        x.pour(0, 1);
        Made.pass(x, 18);
        DUE.is("1000 of 19 and 1000 of 18 lose one each", x.pass(), 2);
        DUE.is("AGE 19", x.of(0, 27), 1998);
        DUE.is("1998 of 19 lose one", x.pass(), 1);
    }

    // ---- Promise 20: undo

    static void p20WithoutAnyItCantBe() {
        WATCH.refused("undo() of a new one", SoleraCellar::new, SoleraCellar::undo, -3);
        WATCH.refused("undo() behind a cask", () -> Made.cellar(0, 9), SoleraCellar::undo, -3);
    }

    static void p20ItAnswersNoughtToThree() {
        SoleraCellar x = Made.cellar(0, 9, 1, 9);
        x.pour(1, 5);
        x.rack(1, 0, 2);
        x.bottle(0, 1);
        x.pass();
        DUE.is("pass", x.undo(), 3);
        DUE.is("bottle", x.undo(), 2);
        DUE.is("rack", x.undo(), 1);
        DUE.is("pour", x.undo(), 0);
        DUE.is("status()", x.status(), 0);
        DUE.is("no more", x.undo(), -3);
        DUE.is("status() then", x.status(), -3);
        DUE.is("count(9)", x.count(9), 1);
    }

    static void p20AllIsAsItWas() {
        SoleraCellar x = Made.under("loses 99", 0, 9, 1, 9);
        x.terms(0, 998);
        x.pour(0, 3);
        x.pass();
        DUE.is("YEAR", x.count(13), 999);
        DUE.is("of(0, 9)", x.of(0, 9), 2703);
        x.undo();
        DUE.is("YEAR undone", x.count(13), 998);
        DUE.is("of(0, 8) undone", x.of(0, 8), 3000);
        DUE.is("of(0, 9) undone", x.of(0, 9), 0);
        DUE.is("of(0, 3) undone", x.of(0, 3), 0);
        x.bottle(0, 3);
        x.undo();
        DUE.is("BOTTLED undone", x.count(1), 0);
        DUE.is("of(0, 2) undone", x.of(0, 2), 3000);
    }

    static void p20SixteenAreKept() {
        SoleraCellar x = Made.cellar(0, 99);
        for (int n = 1; n <= 15; n++) {
            x.pour(0, 1);
        }
        DUE.is("15", x.count(5), 15);
        x.pour(0, 1);
        DUE.is("16", x.count(5), 16);
        x.pour(0, 1);
        DUE.is("17", x.count(5), 16);
        for (int n = 1; n <= 16; n++) {
            DUE.is("undo() " + n, x.undo(), 0);
            DUE.is("left", x.of(0, 2), 17_000 - 1000 * n);
            DUE.is("count(5)", x.count(5), 16 - n);
        }
        DUE.is("a 17th", x.undo(), -3);
        DUE.is("the first stays", x.of(0, 2), 1000);
    }

    static void p20SixteenAreKeptHoweverMany() {
        SoleraCellar x = Made.cellar(0, 99, 0, 99);
        for (int n = 1; n <= 40; n++) {
            x.pour(n % 2, 1);
        }
        for (int n = 0; n < 5; n++) {
            x.undo();
        }
        for (int n = 0; n < 3; n++) {
            x.pass();
        }
        DUE.is("count(5)", x.count(5), 14);
        for (int n = 0; n < 14; n++) {
            DUE.is("undo() " + n, x.undo(), n < 3 ? 3 : 0);
        }
        DUE.is("24 stay", x.of(0, 2) + x.of(1, 2), 24_000);
        DUE.is("no more", x.undo(), -3);
    }

    static void p20ThoseByOrdersToo() {
        SoleraCellar x = Made.cellar(0, 99, 1, 99);
        DUE.is("orders()", Due.orders(x, "pour 9 in 1;pass;rack 2 from 1 in 0;bottle 1 from 0"), 4);
        DUE.is("count(5)", x.count(5), 4);
        int[] kinds = {2, 1, 3, 0};
        for (int kind : kinds) {
            DUE.is("undo()", x.undo(), kind);
        }
        DUE.is("nothing is left", x.of(0, 2) + x.of(1, 2) + x.count(1) + x.count(13), 0);
    }

    static void p20OrdersOfMoreThanSixteen() {
        SoleraCellar x = Made.cellar(0, 99);
        x.pass();
        DUE.is("orders()", Due.orders(x, "pour 1 in 0 times 17"), 17);
        DUE.is("count(5)", x.count(5), 16);
        for (int n = 0; n < 16; n++) {
            DUE.is("undo()", x.undo(), 0);
        }
        DUE.is("one stays", x.of(0, 2), 1000);
        DUE.is("no more", x.undo(), -3);
    }

    static void p20WhatIsRefusedIsNotKept() {
        SoleraCellar x = Made.cellar(0, 9);
        x.pour(0, 1);
        x.pour(0, 0);
        x.pour(0, 9);
        x.rack(0, 0, 1);
        x.bottle(0, 9);
        x.bottle(5, 1);
        DUE.is("count(5)", x.count(5), 1);
        DUE.is("undo()", x.undo(), 0);
        DUE.is("undo() again", x.undo(), -3);
    }

    /** As many as are kept, and one more, which is not any longer. */
    private static SoleraCellar sixteenKept() {
        SoleraCellar x = Made.cellar(0, 99, 0, 99);
        for (int n = 1; n <= 17; n++) {
            x.pour(n % 2, n % 3 + 1);
        }
        return x;
    }

    static void p20WhatIsRefusedLeavesAllSixteen() {
        WATCH.refused("pour(0, 0)", CaskSentencesTest::sixteenKept, x -> x.pour(0, 0), -1);
        WATCH.refused("pour(0, 999)", CaskSentencesTest::sixteenKept, x -> x.pour(0, 999), -3);
        WATCH.refused("rack(0, 1, 1)", CaskSentencesTest::sixteenKept, x -> x.rack(0, 1, 1), -3);
        WATCH.refused("bottle(2, 1)", CaskSentencesTest::sixteenKept, x -> x.bottle(2, 1), -2);
        WATCH.refused("orders()", () -> {
            SoleraCellar x = sixteenKept();
            Due.put(x, "pass times 20;pour 1 in 0;pour 0 in 0");
            return x;
        }, SoleraCellar::orders, -3, "count(6)", 0, "stopped()", 2);
    }

    static void p20OrdersThatRunNothingLeaveAllSixteen() {
        SoleraCellar x = sixteenKept();
        SoleraCellar twin = sixteenKept();
        DUE.is("orders()", Due.orders(x, "pass times 20 if 1=2;pour 1 in 0 if 1/0=1"), 0);
        for (int n = 0; n < 17; n++) {
            DUE.is("undo()", x.undo(), twin.undo());
            DUE.is("of(0, 2)", x.of(0, 2), twin.of(0, 2));
            DUE.is("of(1, 2)", x.of(1, 2), twin.of(1, 2));
        }
    }

    static void p20BehindACaskTermsRowBackNothingCan() {
        SoleraCellar x = Made.cellar(0, 9);
        x.image(0);
        x.pass();
        x.cask(0, 9);
        DUE.is("behind cask()", x.undo(), -3);
        x.pass();
        x.terms(2, 2);
        DUE.is("behind terms()", x.undo(), -3);
        x.pass();
        Due.row(x, 0, 1, 1);
        DUE.is("behind row()", x.undo(), -3);
        x.pass();
        Due.row(x, 0);
        DUE.is("behind row() of a leak alone", x.undo(), -3);
        x.pass();
        x.back(0);
        DUE.is("behind back()", x.undo(), -3);
        x.pass();
        DUE.is("what comes behind that", x.undo(), 3);
    }

    static void p20BehindThoseThatAreRefusedAllCan() {
        SoleraCellar x = Made.cellar(0, 9);
        x.pour(0, 4);
        x.cask(5, 1);
        x.terms(4, 1);
        x.row();
        x.back(0);
        x.back(2);
        DUE.is("undo()", x.undo(), 0);
        DUE.is("of(0, 2)", x.of(0, 2), 0);
    }

    static void p20AllElseLeavesIt() {
        SoleraCellar x = Made.cellar(0, 9);
        x.pour(0, 4);
        Due.law(x, "bars");
        Due.law(x, "bars bars");
        Due.plan(x, "pass");
        Due.plan(x, "pass pass");
        Due.orders(x, "pour 9 in 0");
        Due.orders(x, "pour");
        Due.orders(x, "pass if 1=2");
        x.force(0);
        x.tasted(0, 0);
        x.forget();
        x.image(1);
        x.harvests(7, 7);
        DUE.is("count(5)", x.count(5), 1);
        DUE.is("undo()", x.undo(), 0);
        DUE.is("in FORCE still", x.count(12), 0);
    }
}
