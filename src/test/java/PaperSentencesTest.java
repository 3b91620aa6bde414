/**
 * The boundary cases of what is done on paper: plans (promises 21 to 26), how few are corked, laws
 * compared, harvests (31 to 34): a test for each sentence, named by its promise.
 */
public final class PaperSentencesTest {
    private static final Due DUE = new Due();
    private static final Watch WATCH = new Watch(DUE);
    private static final int NONE = SoleraCellar.NONE;
    private static final int LEAST = Integer.MIN_VALUE;
    private static final int MOST = Integer.MAX_VALUE;
    private static final long WHOLE = 1_000_000_000_000L;

    public static void main(String[] args) {
        Sentences.run(PaperSentencesTest.class, DUE, 21, 22, 23, 24, 25, 26, 31, 32, 33, 34);
    }

    // ---- Promise 21: byPlan

    static void p21NoughtTo60Years() {
        SoleraCellar x = Made.planned("pour 1 in 0", 0, 99);
        DUE.is("0 years", x.byPlan(0, 0, 0, 0), 0);
        DUE.is("1 year", x.byPlan(0, 1, 0, 0), 1000);
        DUE.is("60 years", x.byPlan(0, 60, 0, 0), 60_000);
        for (int n : new int[] {-1, 61, LEAST, MOST}) {
            WATCH.asked("byPlan(0, " + n + ", 0, 0)", Made::busy, y -> y.byPlan(0, n, 0, 0), NONE);
        }
    }

    static void p21NoughtYearsAreAsItIs() {
        WATCH.asked("DROPS", Made::busy, x -> x.byPlan(0, 0, 0, 0), 8801);
        WATCH.asked("MEAN", Made::busy, x -> x.byPlan(0, 0, 0, 1), 2000);
        WATCH.asked("LABEL", Made::busy, x -> x.byPlan(0, 0, 0, 2), 2);
    }

    static void p21WhatIsNoughtToTwo() {
        for (int what : new int[] {-1, 3, LEAST, MOST}) {
            WATCH.asked("byPlan(0, 1, 0, " + what + ")", Made::busy, x -> x.byPlan(0, 1, 0, what), NONE);
        }
    }

    static void p21OfAnEmptyOne() {
        SoleraCellar x = Made.planned("bottle 1 from 0", 0, 9);
        x.pour(0, 1);
        DUE.is("DROPS ahead", x.byPlan(0, 0, 0, 0), 1000);
        DUE.is("MEAN ahead", x.byPlan(0, 0, 0, 1), 0);
        DUE.is("LABEL ahead", x.byPlan(0, 0, 0, 2), 0);
        DUE.is("DROPS", x.byPlan(0, 1, 0, 0), 0);
        DUE.is("MEAN", x.byPlan(0, 1, 0, 1), NONE);
        DUE.is("LABEL", x.byPlan(0, 1, 0, 2), NONE);
    }

    static void p21WithoutSuchAPlanOrCask() {
        for (int other : new int[] {-1, 4, LEAST, MOST}) {
            WATCH.asked("plan " + other, Made::busy, x -> x.byPlan(other, 1, 0, 0), NONE);
            WATCH.asked("cask " + other, Made::busy, x -> x.byPlan(0, 1, other, 0), NONE);
        }
        WATCH.asked("plan 1", Made::busy, x -> x.byPlan(1, 1, 0, 0), NONE);
        WATCH.asked("cask 3", Made::busy, x -> x.byPlan(0, 1, 3, 0), NONE);
        SoleraCellar x = Made.eight(0, 9);
        for (int plan = 0; plan < 4; plan++) {
            Due.plan(x, "pour " + (plan + 1) + " in 7");
        }
        DUE.is("plan 3, cask 7", x.byPlan(3, 1, 7, 0), 4000);
        DUE.is("plan 4", x.byPlan(4, 1, 7, 0), NONE);
        DUE.is("cask 8", x.byPlan(3, 1, 8, 0), NONE);
    }

    static void p21YearGoesOnBeyond999() {
        SoleraCellar x = Made.planned("pour 1 in 0 if year=1000+58", 0, 9);
        x.terms(0, 999);
        DUE.is("59 years", x.byPlan(0, 59, 0, 0), 0);
        DUE.is("60 years", x.byPlan(0, 60, 0, 0), 1000);
        DUE.is("MEAN", x.byPlan(0, 60, 0, 1), 1000);
        DUE.is("YEAR", x.count(13), 999);
    }

    static void p21LawsSeeTheYearBeyond999() {
        SoleraCellar x = Made.under("loses 10 if year=1000", 0, 9);
        x.terms(0, 999);
        x.pour(0, 9);
        Due.plan(x, "pass");
        DUE.is("1 year", x.byPlan(0, 1, 0, 0), 9000);
        DUE.is("2 years", x.byPlan(0, 2, 0, 0), 8910);
        DUE.is("3 years", x.byPlan(0, 3, 0, 0), 8910);
    }

    static void p21EachPassIsSkipped() {
        SoleraCellar x = Made.planned("pass times 20;pour 1 in 0 if done=0;pass", 0, 9);
        DUE.is("DROPS", x.byPlan(0, 1, 0, 0), 1000);
        DUE.is("MEAN", x.byPlan(0, 1, 0, 1), 1000);
        DUE.is("MEAN of 2", x.byPlan(0, 2, 0, 1), 1500);
    }

    static void p21WhatCantBeIsSkippedAndTheRestIsRun() {
        SoleraCellar x = Made.planned("pour 10 in 0;pour 1/0 in 0;rack 1 from 0 in 0;bottle 1 from 7;pour 0 in 0;pour 2 in 0", 0, 9);
        DUE.is("1 year", x.byPlan(0, 1, 0, 0), 2000);
        DUE.is("2 years", x.byPlan(0, 2, 0, 0), 4000);
        DUE.is("5 years", x.byPlan(0, 5, 0, 0), 8000);
    }

    static void p21DoneIsOfThisYear() {
        SoleraCellar x = Made.planned("pour 1 in 0 times 20 if done<2", 0, 99);
        DUE.is("1 year", x.byPlan(0, 1, 0, 0), 2000);
        DUE.is("3 years", x.byPlan(0, 3, 0, 0), 6000);
        SoleraCellar y = Made.planned("pour 100 in 0;pour 1 in 0 if done=0", 0, 99);
        DUE.is("what is SKIPPED is not done", y.byPlan(0, 1, 0, 0), 1000);
    }

    static void p21LatestIsOfThisYear() {
        SoleraCellar x = Made.planned("pour 1 in 1 if latest>0-1;bottle 1 from 0;pour 1 in 2 if latest>0-1", 0, 9, 0, 9, 0, 9);
        x.pour(0, 2);
        DUE.is("ahead of the bottle", x.byPlan(0, 4, 1, 0), 0);
        DUE.is("behind it, in two years", x.byPlan(0, 4, 2, 0), 2000);
    }

    static void p21WhatIsSkippedIsNeitherDoneNorTheLatest() {
        String[] skipped = {"bottle 0 from 0", "bottle 1 from 7", "bottle 9 from 0", "bottle 1/0 from 0", "bottle 1 from 0/0", "pass"};
        for (String clause : skipped) {
            SoleraCellar x = Made.planned("bottle 1 from 0;" + clause + ";pour 3 in 1 if done=1 and latest=2*1000", 0, 9, 0, 9);
            x.pour(0, 3);
            Made.pass(x, 2);
            DUE.is("behind " + clause, x.byPlan(0, 1, 1, 0), 3000);
        }
        for (String clause : new String[] {"pour 0 in 0", "pour 1 in 7", "pour 9 in 0", "pour 1/0 in 0", "rack 0 from 0 in 0"}) {
            SoleraCellar x = Made.planned(clause + ";pour 3 in 1 if done=0", 0, 8, 0, 9);
            DUE.is("behind " + clause, x.byPlan(0, 1, 1, 0), 3000);
        }
    }

    static void p21BottledIsAtMost999999() {
        SoleraCellar x = Made.bottledShortBy(1);
        Due.plan(x, "pour 2 in 0;pour 1 in 1 if bottled=999*1000+998;bottle 2 from 0;pour 1 in 2 if bottled=999*1000+999");
        DUE.is("ahead", x.byPlan(0, 3, 1, 0), 1000);
        DUE.is("behind", x.byPlan(0, 3, 2, 0), 3000);
        DUE.is("BOTTLED stays", x.count(1), 999_998);
    }

    static void p21OnPaperNothingChanges() {
        WATCH.asked("byPlan(0, 2, 1, 0)", Made::busy, x -> x.byPlan(0, 2, 1, 0), 3932);
    }

    // ---- Promise 22: oldEnough

    static void p22TheMeanIsNoughtTo19000() {
        SoleraCellar x = Made.planned("pass", 0, 9);
        x.pour(0, 1);
        DUE.is("0", x.oldEnough(0, 0, 0), 0);
        DUE.is("19,000", x.oldEnough(0, 0, 19_000), 19);
        for (int m : new int[] {-1, 19_001, LEAST, MOST}) {
            WATCH.asked("oldEnough(0, 0, " + m + ")", Made::busy, y -> y.oldEnough(0, 0, m), NONE);
        }
    }

    static void p22SoManyThousandthsOrMore() {
        SoleraCellar x = Made.planned("pass", 0, 9);
        x.pour(0, 1);
        x.pass();
        x.pour(0, 1);
        DUE.is("just 500", x.oldEnough(0, 0, 500), 0);
        DUE.is("501", x.oldEnough(0, 0, 501), 1);
        DUE.is("1500", x.oldEnough(0, 0, 1500), 1);
        DUE.is("1501", x.oldEnough(0, 0, 1501), 2);
    }

    static void p22SixtyIsTheLast() {
        SoleraCellar x = Made.planned("pour 1 in 0 if year=41", 0, 9);
        DUE.is("19,000 at 60", x.oldEnough(0, 0, 19_000), 60);
        DUE.is("18,000 at 59", x.oldEnough(0, 0, 18_000), 59);
        SoleraCellar y = Made.planned("pour 1 in 0 if year=42", 0, 9);
        DUE.is("19,000 at 61", y.oldEnough(0, 0, 19_000), NONE);
        DUE.is("18,000 at 60", y.oldEnough(0, 0, 18_000), 60);
    }

    static void p22AnEmptyOneIsNeverOldEnough() {
        SoleraCellar x = Made.planned("pour 1 in 0 if year=3", 0, 9, 0, 9);
        DUE.is("not even at 0", x.oldEnough(0, 1, 0), NONE);
        DUE.is("from 4 on", x.oldEnough(0, 0, 0), 4);
    }

    static void p22WithoutSuchAPlanOrCask() {
        for (int other : new int[] {-1, 4, LEAST, MOST}) {
            WATCH.asked("plan " + other, Made::busy, x -> x.oldEnough(other, 0, 0), NONE);
            WATCH.asked("cask " + other, Made::busy, x -> x.oldEnough(0, other, 0), NONE);
        }
        WATCH.asked("plan 1", Made::busy, x -> x.oldEnough(1, 0, 0), NONE);
        WATCH.asked("cask 3", Made::busy, x -> x.oldEnough(0, 3, 0), NONE);
        WATCH.asked("plan 0, cask 2", Made::busy, x -> x.oldEnough(0, 2, 0), 0);
    }

    // ---- Promise 23: settled

    static void p23NoughtIsTheFirst() {
        SoleraCellar x = Made.planned("pass", 0, 9);
        x.pour(0, 1);
        Made.pass(x, 18);
        DUE.is("at 18", x.settled(0, 0), 1);
        x.pass();
        DUE.is("at 19", x.settled(0, 0), 0);
    }

    static void p23FiftyNineIsTheLast() {
        SoleraCellar x = Made.planned("pour 1 in 0 if year=40", 0, 9);
        DUE.is("59", x.settled(0, 0), 59);
        SoleraCellar y = Made.planned("pour 1 in 0 if year=41", 0, 9);
        DUE.is("60", y.settled(0, 0), NONE);
    }

    static void p23OneThatIsEmptyIsNotSettled() {
        SoleraCellar x = Made.planned("bottle 1 from 0 if year=2;pour 1 in 1 if year=5", 0, 9, 0, 9, 0, 9);
        x.pour(0, 1);
        DUE.is("empty behind 3 years", x.settled(0, 0), NONE);
        DUE.is("empty at first", x.settled(0, 1), 24);
        DUE.is("always empty", x.settled(0, 2), NONE);
    }

    static void p23TheMeanIsAsItIsOneYearOn() {
        SoleraCellar x = Made.planned("bottle 1 from 0;pour 1 in 0", 0, 9);
        x.pour(0, 1);
        DUE.is("0, 1000, 1000", x.settled(0, 0), 1);
        x.pass();
        DUE.is("1000, 1000", x.settled(0, 0), 0);
    }

    static void p23WithoutSuchAPlanOrCask() {
        for (int other : new int[] {-1, 4, LEAST, MOST}) {
            WATCH.asked("plan " + other, Made::busy, x -> x.settled(other, 0), NONE);
            WATCH.asked("cask " + other, Made::busy, x -> x.settled(0, other), NONE);
        }
        WATCH.asked("plan 1", Made::busy, x -> x.settled(1, 0), NONE);
        WATCH.asked("cask 3", Made::busy, x -> x.settled(0, 3), NONE);
        WATCH.asked("cask 2", Made::busy, x -> x.settled(0, 2), 18);
    }

    // ---- Promise 24: starves

    static void p24NoughtIsTheFirstAnd59TheLast() {
        DUE.is("1", Made.planned("pour 1 in 0", 0, 1).starves(0), 1);
        DUE.is("at once", Made.planned("pour 2 in 0", 0, 1).starves(0), 0);
        DUE.is("59", Made.planned("pour 2 in 0 if year=59", 0, 1).starves(0), 59);
        DUE.is("60", Made.planned("pour 2 in 0 if year=60", 0, 1).starves(0), NONE);
    }

    static void p24OneOfItsTimesAtLeast() {
        DUE.is("the last of 20", Made.planned("pour 1 in 0 times 20", 0, 19).starves(0), 0);
        DUE.is("none of 20", Made.planned("pour 1 in 0 times 20", 0, 20).starves(0), 1);
    }

    static void p24APassIsNone() {
        DUE.is("pass alone", Made.planned("pass times 20;pass", 0, 9).starves(0), NONE);
    }

    static void p24OneThatIsNotRunIsNotSkipped() {
        DUE.is("not so", Made.planned("pour 2 in 0 if 1=2", 0, 1).starves(0), NONE);
        DUE.is("a BROKEN if", Made.planned("pour 2 in 0 if 1/0=1", 0, 1).starves(0), NONE);
        DUE.is("a BROKEN sum with an if that is not so", Made.planned("pour 1/0 in 0 if 1=2", 0, 1).starves(0), NONE);
    }

    static void p24ABrokenSumIsSkipped() {
        DUE.is("pour", Made.planned("pour 1/0 in 0", 0, 9).starves(0), 0);
        DUE.is("into", Made.planned("pour 1 in 0/0", 0, 9).starves(0), 0);
        DUE.is("in the eighth YEAR", Made.planned("pour 7/[7-year] in 0", 0, 999).starves(0), 7);
    }

    static void p24AnyClauseOfIt() {
        DUE.is("the first", Made.planned("pour 2 in 0;pass", 0, 1).starves(0), 0);
        DUE.is("the twelfth", Made.planned("pass" + ";pass".repeat(10) + ";pour 2 in 0", 0, 1).starves(0), 0);
    }

    static void p24OnePlanIsNothingToTheNext() {
        SoleraCellar x = Made.planned("pour 2 in 0", 0, 1);
        Due.plan(x, "pass");
        DUE.is("starves(0)", x.starves(0), 0);
        DUE.is("starves(1)", x.starves(1), NONE);
        DUE.is("starves(0) again", x.starves(0), 0);
    }

    static void p24WithoutSuchAPlan() {
        for (int plan : new int[] {-1, 1, 4, LEAST, MOST}) {
            WATCH.asked("starves(" + plan + ")", Made::busy, x -> x.starves(plan), NONE);
        }
        WATCH.asked("starves(0)", Made::busy, x -> x.starves(0), 8);
    }

    // ---- Promise 25: yields

    static void p25NoughtTo60Years() {
        SoleraCellar x = Made.planned("pour 2 in 0;bottle 1 from 0", 0, 99);
        DUE.is("0", x.yields(0, 0), 0);
        DUE.is("1", x.yields(0, 1), 1);
        DUE.is("60", x.yields(0, 60), 60);
        for (int n : new int[] {-1, 61, LEAST, MOST}) {
            WATCH.asked("yields(0, " + n + ")", Made::busy, y -> y.yields(0, n), NONE);
        }
    }

    static void p25ThoseOfBeforeNot() {
        SoleraCellar x = Made.planned("bottle 1 from 0", 0, 9);
        x.pour(0, 9);
        x.bottle(0, 5);
        DUE.is("3 years", x.yields(0, 3), 3);
        DUE.is("60 years", x.yields(0, 60), 4);
        DUE.is("0 years", x.yields(0, 0), 0);
    }

    static void p25NotCutAt999999() {
        SoleraCellar x = Made.eight(0, 999);
        Due.plan(x, Made.rounds(6));
        DUE.is("20 years", x.yields(0, 20), 959_040);
        DUE.is("21 years", x.yields(0, 21), 1_006_992);
        DUE.is("60 years", x.yields(0, 60), 2_877_120);
        SoleraCellar y = Made.bottledShortBy(0);
        Due.plan(y, "pour 2 in 0;bottle 2 from 0");
        DUE.is("with all BOTTLED", y.yields(0, 3), 6);
    }

    static void p25WithoutSuchAPlan() {
        for (int plan : new int[] {-1, 1, 4, LEAST, MOST}) {
            WATCH.asked("yields(" + plan + ", 1)", Made::busy, x -> x.yields(plan, 1), NONE);
        }
        WATCH.asked("yields(0, 1)", Made::busy, x -> x.yields(0, 1), 1);
    }

    // ---- Promise 26: best

    private static SoleraCellar threeYearsOld(String... plans) {
        SoleraCellar x = Made.cellar(0, 99);
        x.pour(0, 60);
        Made.pass(x, 3);
        for (String plan : plans) {
            Due.plan(x, plan);
        }
        return x;
    }

    static void p26NoughtTo60Years() {
        SoleraCellar x = threeYearsOld("bottle 1 from 0 if year<62", "bottle 60 from 0 if year=62");
        DUE.is("60 years: 59 and 60", x.best(60, 0), 1);
        DUE.is("59 years: 59 and 0", x.best(59, 0), 0);
        DUE.is("0 years", x.best(0, 0), 0);
        for (int n : new int[] {-1, 61, LEAST, MOST}) {
            WATCH.asked("best(" + n + ", 0)", Made::busy, y -> y.best(n, 0), NONE);
        }
    }

    static void p26TheMeanIsNoughtTo19000() {
        SoleraCellar x = threeYearsOld("bottle 1 from 0 if year>20");
        DUE.is("0", x.best(30, 0), 0);
        DUE.is("19,000", x.best(30, 19_000), 0);
        for (int m : new int[] {-1, 19_001, LEAST, MOST}) {
            WATCH.asked("best(0, " + m + ")", Made::busy, y -> y.best(0, m), NONE);
        }
    }

    static void p26EachMeanIsSoManyOrMore() {
        SoleraCellar x = threeYearsOld("bottle 1 from 0");
        DUE.is("just 3000", x.best(2, 3000), 0);
        DUE.is("3001", x.best(2, 3001), NONE);
    }

    static void p26WheneverItWas() {
        SoleraCellar x = threeYearsOld("bottle 1 from 0 if year>4", "bottle 9 from 0 if year=5;pour 9 in 0 if year=5");
        DUE.is("all of 5 years and more", x.best(3, 5000), 1);
        SoleraCellar y = threeYearsOld("bottle 1 from 0", "bottle 9 from 0 if year=3;pour 40 in 0 if year=4;bottle 1 from 0 if year=4");
        DUE.is("the worst of a later year", y.best(2, 3000), 0);
        SoleraCellar z = threeYearsOld("bottle 1 from 0", "pour 30 in 0 if year=3;bottle 9 from 0");
        DUE.is("the worst of the first year", z.best(60, 3000), 0);
    }

    static void p26NoneBottledToo() {
        DUE.is("pass", threeYearsOld("pass").best(60, 19_000), 0);
        DUE.is("SKIPPED ones", threeYearsOld("bottle 99 from 0").best(60, 19_000), 0);
        DUE.is("ahead of one too young", threeYearsOld("bottle 1 from 0", "pass").best(1, 19_000), 1);
    }

    static void p26TheLowestOfThoseAlike() {
        DUE.is("two alike", threeYearsOld("bottle 2 from 0", "bottle 1 from 0 times 2").best(1, 0), 0);
        DUE.is("one more", threeYearsOld("bottle 2 from 0", "bottle 1 from 0 times 3", "bottle 3 from 0").best(1, 0), 1);
        DUE.is("none of four", threeYearsOld("pass", "pass", "pass", "pass").best(1, 0), 0);
        DUE.is("the fourth", threeYearsOld("pass", "pass", "pass", "bottle 1 from 0").best(1, 0), 3);
    }

    static void p26TheYieldIsNotCut() {
        SoleraCellar x = Made.eight(0, 999);
        Due.plan(x, Made.rounds(5));
        Due.plan(x, Made.rounds(6));
        DUE.is("both beyond 999,999", x.best(60, 0), 1);
        SoleraCellar y = Made.bottledShortBy(0);
        Due.plan(y, "pour 1 in 0;bottle 1 from 0");
        Due.plan(y, "pour 2 in 0;bottle 2 from 0");
        DUE.is("with all BOTTLED", y.best(1, 0), 1);
    }

    static void p26WhatWasBottledAheadOfItIsNothingToIt() {
        SoleraCellar x = threeYearsOld("pass", "bottle 1 from 0");
        x.pour(0, 30);
        DUE.is("bottle(0, 5), of a lower MEAN", x.bottle(0, 5), 2000);
        // 667 of AGE 3 are in the measure that the plan bottles.
        DUE.is("best(1, 2001)", x.best(1, 2001), 1);
        DUE.is("best(1, 2002)", x.best(1, 2002), 0);
        DUE.is("best(1, 2001) again", x.best(1, 2001), 1);
    }

    static void p26WithoutPlans() {
        SoleraCellar x = Made.cellar(0, 9);
        DUE.is("best(0, 0)", x.best(0, 0), NONE);
        DUE.is("of one without casks", Made.planned("pass").best(0, 0), 0);
    }

    // ---- Promise 31: few

    static void p31KIsOneTo20() {
        SoleraCellar x = new SoleraCellar();
        DUE.is("few(1, 1)", x.few(1, 1), 900_000_000_000L);
        DUE.is("few(20, 20)", x.few(20, 20), 999_999_999_894L);
        for (int k : new int[] {0, 21, -1, LEAST, MOST}) {
            WATCH.asked("few(" + k + ", 1)", Made::busy, y -> y.few(k, 1), NONE);
        }
    }

    static void p31NIsNoughtTo99() {
        SoleraCellar x = new SoleraCellar();
        DUE.is("few(1, 0)", x.few(1, 0), WHOLE);
        DUE.is("few(20, 0)", x.few(20, 0), WHOLE);
        DUE.is("few(1, 99)", x.few(1, 99), 29_512_660L);
        DUE.is("few(20, 99)", x.few(20, 99), 998_255_635_351L);
        for (int n : new int[] {-1, 100, LEAST, MOST}) {
            WATCH.asked("few(1, " + n + ")", Made::busy, y -> y.few(1, n), NONE);
        }
    }

    static void p31NoneOrAllAreCorked() {
        SoleraCellar x = new SoleraCellar();
        x.terms(1, 0);
        DUE.is("none: few(1, 99)", x.few(1, 99), WHOLE);
        x.terms(1, 10);
        DUE.is("all: few(1, 0)", x.few(1, 0), WHOLE);
        DUE.is("all: few(1, 1)", x.few(1, 1), 0);
        DUE.is("all: few(20, 19)", x.few(20, 19), WHOLE);
        DUE.is("all: few(20, 20)", x.few(20, 20), 0);
    }

    static void p31FewerThanK() {
        SoleraCellar x = new SoleraCellar();
        x.terms(1, 3);
        DUE.is("few(3, 3)", x.few(3, 3), 973_000_000_000L);
        DUE.is("few(4, 3)", x.few(4, 3), WHOLE);
        DUE.is("few(1, 3)", x.few(1, 3), 343_000_000_000L);
    }

    static void p31BothAreCut() {
        SoleraCellar x = new SoleraCellar();
        x.terms(1, 3);
        DUE.is("few(5, 30)", x.few(5, 30), 30_154_943_066L);
        x.terms(1, 5);
        DUE.is("few(20, 20)", x.few(20, 20), 999_999_046_270L);
        DUE.is("few(20, 99)", x.few(20, 99), 200);
        DUE.is("few(1, 1) behind it", x.few(1, 1), 500_000_000_000L);
    }

    // ---- Promise 32: compare

    static void p32NoneIsNone() {
        WATCH.asked("compare(NONE, 0)", Made::busy, x -> x.compare(NONE, 0), 0);
        WATCH.asked("compare(0, 0)", Made::busy, x -> x.compare(0, 0), 88);
    }

    static void p32WithoutSuchALawOrCask() {
        for (int other : new int[] {-2, 6, LEAST, MOST}) {
            WATCH.asked("law " + other, Made::busy, x -> x.compare(other, 0), NONE);
            WATCH.asked("cask " + other, Made::busy, x -> x.compare(0, other), NONE);
        }
        WATCH.asked("law 1", Made::busy, x -> x.compare(1, 0), NONE);
        WATCH.asked("cask 3", Made::busy, x -> x.compare(0, 3), NONE);
        WATCH.asked("cask -1", Made::busy, x -> x.compare(0, -1), NONE);
        WATCH.asked("no law, no cask", Made::busy, x -> x.compare(NONE, 3), NONE);
    }

    static void p32InPlaceOfThatInForce() {
        SoleraCellar x = Made.under("loses 10", 0, 9, 0, 9);
        x.pour(0, 9);
        for (int law = 1; law < 6; law++) {
            Due.law(x, "loses " + law);
        }
        DUE.is("the last law", x.compare(5, 0), 45);
        DUE.is("a law that loses nothing", x.compare(NONE, 0), 0);
        DUE.is("of an empty one", x.compare(5, 1), 0);
        x.force(NONE);
        DUE.is("with none in FORCE", x.compare(0, 0), 90);
        DUE.is("in FORCE", x.count(12), NONE);
    }

    static void p32ItIsCutForEachAgeAndAtMost99() {
        SoleraCellar x = Made.oneDropShort(0);
        x.pour(0, 1);
        DUE.is("999 lose nothing, 1000 lose one", x.compare(0, 0), 1);
        SoleraCellar y = Made.under("loses 100", 0, 999);
        y.pour(0, 999);
        DUE.is("the most", y.compare(0, 0), 98_901);
    }

    static void p32TheDropsOfItsNeighboursAreNotItsOwn() {
        SoleraCellar x = Made.under("loses 10", 0, 9, 0, 9, 0, 9);
        x.pour(0, 9);
        x.pour(2, 9);
        DUE.is("of an empty one", x.compare(0, 1), 0);
        x.pour(1, 1);
        DUE.is("of its own", x.compare(0, 1), 10);
    }

    static void p32AtYear999Too() {
        SoleraCellar x = Made.under("loses 10 if year=999", 0, 9);
        x.terms(0, 999);
        x.pour(0, 9);
        DUE.is("compare(0, 0)", x.compare(0, 0), 90);
    }

    // ---- Promise 33: harvests

    /** One cask of TIER 0 with room for all that is poured in it, and never too little to bottle. */
    private static SoleraCellar half() {
        SoleraCellar x = Made.cellar(0, 999);
        x.pour(0, 500);
        return x;
    }

    static void p33TheSeedIsNoughtToAMillion() {
        SoleraCellar x = half();
        DUE.is("harvests(0, 60)", x.harvests(0, 60), 62);
        DUE.is("drawn of it", x.drawn(0, 0), 516_000);
        DUE.is("harvests(1000000, 60)", x.harvests(1_000_000, 60), 68);
        DUE.is("drawn of it, too", x.drawn(0, 0), 512_000);
        for (int seed : new int[] {-1, 1_000_001, LEAST, MOST}) {
            WATCH.refused("harvests(" + seed + ", 1)", Made::busy, y -> y.harvests(seed, 1), -1);
        }
    }

    static void p33OneTo60Times() {
        SoleraCellar x = half();
        DUE.is("harvests(30, 1)", x.harvests(30, 1), 1);
        DUE.is("drawn of it", x.drawn(0, 0), 499_000);
        DUE.is("its MEAN", x.drawn(0, 1), 1000);
        DUE.is("harvests(0, 59)", x.harvests(0, 59), 60);
        for (int n : new int[] {0, 61, -1, LEAST, MOST}) {
            WATCH.refused("harvests(5, " + n + ")", Made::busy, y -> y.harvests(5, n), -1);
        }
    }

    static void p33WithoutCasksItCantBe() {
        WATCH.refused("harvests(5, 1)", SoleraCellar::new, x -> x.harvests(5, 1), -3);
        WATCH.refused("harvests(-1, 1)", SoleraCellar::new, x -> x.harvests(-1, 1), -1);
        WATCH.refused("harvests(5, 61)", SoleraCellar::new, x -> x.harvests(5, 61), -1);
    }

    static void p33AsLongAsYearIsBelow999() {
        SoleraCellar x = half();
        x.terms(0, 999);
        DUE.is("at 999", x.harvests(30, 60), 0);
        DUE.is("status()", x.status(), 0);
        DUE.is("it is as it is", x.drawn(0, 0), 500_000);
        DUE.is("its MEAN", x.drawn(0, 1), 0);
        x.terms(0, 998);
        DUE.is("at 998", x.harvests(30, 60), 1);
        DUE.is("it is a year older", x.drawn(0, 1), 1000);
        x.terms(0, 940);
        DUE.is("at 940 there are 59", x.harvests(0, 60), 60);
        x.terms(0, 939);
        DUE.is("at 939 there are 60", x.harvests(0, 60), 62);
    }

    /** Cask 0 of TIER 0 and SIZE 9, cask 1 of TIER 1 and SIZE 9, so many measures in each. */
    private static SoleraCellar two(int lower, int upper) {
        SoleraCellar x = Made.cellar(0, 9, 1, 9);
        if (lower > 0) {
            x.pour(0, lower);
        }
        if (upper > 0) {
            x.pour(1, upper);
        }
        return x;
    }

    private static void harvested(SoleraCellar x, int seed, int bottled, int lower, int upper) {
        DUE.is("harvests(" + seed + ", 1)", x.harvests(seed, 1), bottled);
        DUE.is("drawn(0, 0) by " + seed, x.drawn(0, 0), lower * 1000L);
        DUE.is("drawn(1, 0) by " + seed, x.drawn(1, 0), upper * 1000L);
    }

    static void p33OneMeasureMoreThanTheThirdDrawIsPoured() {
        harvested(two(0, 0), 5, 0, 1, 0);
        harvested(two(0, 0), 7, 0, 9, 0);
        harvested(two(0, 0), 372, 0, 0, 9);
        harvested(two(8, 0), 5, 0, 9, 0);
        harvested(two(9, 0), 5, 0, 9, 0);
        harvested(two(1, 0), 7, 0, 1, 0);
    }

    static void p33RackedFromTheFirstIntoTheSecond() {
        harvested(two(0, 9), 196, 0, 1, 8);
        harvested(two(0, 9), 206, 0, 9, 0);
        harvested(two(1, 9), 206, 0, 1, 9);
        harvested(two(0, 8), 206, 0, 0, 8);
        harvested(two(9, 0), 63, 0, 9, 0);
    }

    static void p33BottledFromTheFirst() {
        harvested(two(1, 0), 113, 1, 0, 0);
        harvested(two(9, 0), 123, 9, 0, 0);
        harvested(two(8, 0), 123, 0, 8, 0);
        harvested(two(0, 0), 113, 0, 0, 0);
        harvested(two(0, 9), 30, 0, 0, 9);
        harvested(two(9, 9), 171, 0, 9, 9);
    }

    static void p33ByTheLawInForce() {
        SoleraCellar x = two(9, 0);
        Due.law(x, "yields 8;loses 10");
        Due.law(x, "bars");
        x.force(0);
        DUE.is("more than it YIELDS", x.harvests(123, 1), 0);
        DUE.is("what it LOSES", x.drawn(0, 0), 8910);
        x.force(1);
        DUE.is("BARRED", x.harvests(113, 1), 0);
        x.force(NONE);
        DUE.is("by none", x.harvests(123, 1), 9);
    }

    static void p33OfEightCasks() {
        SoleraCellar x = Made.eight(0, 9);
        DUE.is("poured into the last", x.harvests(362, 1), 0);
        DUE.is("drawn(7, 0)", x.drawn(7, 0), 1000);
        x.pour(7, 1);
        DUE.is("bottled from the last", x.harvests(1972, 1), 1);
    }

    static void p33What999999CutsOffToo() {
        SoleraCellar x = Made.bottledShortBy(0);
        x.pour(7, 1);
        DUE.is("harvests(1972, 1)", x.harvests(1972, 1), 1);
        DUE.is("BOTTLED", x.count(1), 999_999);
        DUE.is("drawn(7, 0)", x.drawn(7, 0), 0);
    }

    static void p33OnPaperNothingElseChanges() {
        WATCH.accepted("harvests(362, 1)", () -> Made.eight(0, 9), x -> x.harvests(362, 1), 0, "drawn(0, 0)", 0, "drawn(1, 0)", 0,
            "drawn(2, 0)", 0, "drawn(3, 0)", 0, "drawn(4, 0)", 0, "drawn(5, 0)", 0, "drawn(6, 0)", 0, "drawn(7, 0)", 1000);
    }

    // ---- Promise 34: drawn

    static void p34AheadOfAnyHarvests() {
        WATCH.asked("drawn(0, 0)", () -> Made.cellar(0, 9), x -> x.drawn(0, 0), NONE);
        WATCH.asked("drawn(0, 1)", () -> Made.cellar(0, 9), x -> x.drawn(0, 1), NONE);
    }

    static void p34WhatIsNoughtOrOne() {
        for (int what : new int[] {-1, 2, LEAST, MOST}) {
            WATCH.asked("drawn(0, " + what + ")", Made::busy, x -> x.drawn(0, what), NONE);
        }
    }

    static void p34OfAnEmptyOne() {
        SoleraCellar x = two(0, 0);
        x.harvests(5, 1);
        DUE.is("DROPS", x.drawn(1, 0), 0);
        DUE.is("MEAN", x.drawn(1, 1), NONE);
        DUE.is("MEAN of the other", x.drawn(0, 1), 1000);
    }

    static void p34WithoutSuchACaskInThem() {
        SoleraCellar x = two(0, 0);
        x.harvests(5, 1);
        x.cask(0, 9);
        for (int cask : new int[] {-1, 2, 8, LEAST, MOST}) {
            DUE.is("drawn(" + cask + ", 0)", x.drawn(cask, 0), NONE);
            DUE.is("drawn(" + cask + ", 1)", x.drawn(cask, 1), NONE);
        }
        x.harvests(5, 1);
        DUE.is("drawn(2, 0) of the next", x.drawn(2, 0), 0);
    }

    static void p34OfACaskThatIsNotThereNow() {
        SoleraCellar x = new SoleraCellar();
        x.image(0);
        x.cask(0, 9);
        x.cask(1, 9);
        x.harvests(5, 1);
        x.back(0);
        DUE.is("count(0)", x.count(0), 0);
        DUE.is("drawn(0, 0)", x.drawn(0, 0), 1000);
        DUE.is("drawn(1, 1)", x.drawn(1, 1), NONE);
        DUE.is("drawn(1, 0)", x.drawn(1, 0), 0);
    }

    static void p34ThoseThatWereRefusedAreNone() {
        SoleraCellar x = two(0, 0);
        x.image(1);
        x.harvests(5, 1);
        x.harvests(7, 61);
        x.harvests(-1, 1);
        DUE.is("drawn(0, 0)", x.drawn(0, 0), 1000);
        SoleraCellar y = new SoleraCellar();
        y.image(0);
        y.cask(0, 9);
        y.harvests(5, 1);
        y.back(0);
        DUE.is("harvests() without casks", y.harvests(7, 1), -3);
        DUE.is("drawn(0, 0) then", y.drawn(0, 0), 1000);
    }

    static void p34WhatIsDoneBehindThemIsNothingToThem() {
        SoleraCellar x = two(3, 0);
        x.harvests(113, 1);
        x.pour(0, 5);
        x.pass();
        x.undo();
        DUE.is("DROPS", x.drawn(0, 0), 2000);
        DUE.is("MEAN", x.drawn(0, 1), 1000);
    }
}
