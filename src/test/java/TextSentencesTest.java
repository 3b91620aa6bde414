/**
 * The boundary cases of the TAPE, of rows, laws, plans and orders (promises 6 to 15): a test for each
 * sentence, named by its promise.
 */
public final class TextSentencesTest {
    private static final Due DUE = new Due();
    private static final Watch WATCH = new Watch(DUE);
    private static final int NONE = SoleraCellar.NONE;
    private static final int LEAST = Integer.MIN_VALUE;
    private static final int MOST = Integer.MAX_VALUE;

    public static void main(String[] args) {
        Sentences.run(TextSentencesTest.class, DUE, 6, 7, 8, 9, 10, 11, 12, 13, 14, 15);
    }

    // ---- Promise 6: feed

    private static SoleraCellar fed(int bytes) {
        SoleraCellar x = Made.busy();
        Due.put(x, new byte[bytes]);
        return x;
    }

    static void p06FourHundredBytesAreTheMost() {
        SoleraCellar x = new SoleraCellar();
        for (int n = 1; n <= 20; n++) {
            DUE.is("feed " + n, x.feed(1, 2, 3, 4, 5), 20 * n);
        }
        DUE.is("a 21st", x.feed(1, 2, 3, 4, 5), NONE);
        WATCH.asked("feed behind 380", () -> fed(380), y -> y.feed(0, 0, 0, 0, 0), 400, "count(6)", 400);
        WATCH.asked("feed behind 381", () -> fed(381), y -> y.feed(0, 0, 0, 0, 0), NONE);
        WATCH.asked("feed behind 400", () -> fed(400), y -> y.feed(0, 0, 0, 0, 0), NONE);
    }

    static void p06AnEmptyTape() {
        WATCH.asked("feed behind nothing", () -> fed(0), y -> y.feed(0, 0, 0, 0, 0), 20, "count(6)", 20);
    }

    static void p06WhatIsTooMuchLeavesTheBytes() {
        SoleraCellar x = new SoleraCellar();
        Due.put(x, "bars" + " ".repeat(396));
        x.feed(MOST, MOST, MOST, MOST, MOST);
        DUE.is("law()", x.law(), 0);
    }

    static void p06TheHighestByteOfEachNumberIsFirst() {
        SoleraCellar x = new SoleraCellar();
        x.feed(0x04FF8001, 0x7F7F0280, 0x00030305, 0x00010100, 0x04FF0000);
        // 4 255 128, 1 127 127, 2 128 0, 3 3 5 leaks, 0 1 1, 0 4 255 leaks, and two bytes more leak.
        DUE.is("row()", x.row(), 4);
        DUE.is("leaks()", x.leaks(), 3);
        int[][] want = {{4, 255, 128_000}, {1, 127, 127_000}, {2, 128, 0}, {0, 1, 1000}};
        for (int cask = 0; cask < want.length; cask++) {
            for (int what = 0; what < 3; what++) {
                DUE.is("of(" + cask + ", " + what + ")", x.of(cask, what), want[cask][what]);
            }
        }
    }

    static void p06NumbersBelowNoughtAreBytesToo() {
        SoleraCellar x = new SoleraCellar();
        x.feed(0x03FFFF04, 0xFFFEFFFF, -1, LEAST, MOST);
        x.end(6);
        DUE.is("row()", x.row(), 2);
        DUE.is("of(0, 2)", x.of(0, 2), 255_000);
        DUE.is("of(1, 2)", x.of(1, 2), 254_000);
    }

    // ---- Promise 7: end

    static void p07AsManyAsItHas() {
        WATCH.asked("end(40) of 40", () -> fed(40), x -> x.end(40), 40);
        WATCH.asked("end(39) of 40", () -> fed(40), x -> x.end(39), 39, "count(6)", 39);
        WATCH.asked("end(0) of 40", () -> fed(40), x -> x.end(0), 0, "count(6)", 0);
        WATCH.asked("end(41) of 40", () -> fed(40), x -> x.end(41), NONE);
        WATCH.asked("end(400) of 400", () -> fed(400), x -> x.end(400), 400);
        WATCH.asked("end(401) of 400", () -> fed(400), x -> x.end(401), NONE);
    }

    static void p07BelowNoughtAndFarOff() {
        for (int n : new int[] {-1, LEAST, MOST}) {
            WATCH.asked("end(" + n + ")", () -> fed(40), x -> x.end(n), NONE);
        }
    }

    static void p07OfAnEmptyTape() {
        WATCH.asked("end(0) of nothing", () -> fed(0), x -> x.end(0), 0);
        WATCH.asked("end(1) of nothing", () -> fed(0), x -> x.end(1), NONE);
    }

    static void p07TheFirstBytesStay() {
        SoleraCellar x = new SoleraCellar();
        Due.put(x, "bars;bars;bars");
        x.end(4);
        DUE.is("what comes then is behind them", x.feed(0x3B3B3B3B, 0, 0, 0, 0), 24);
        x.end(6);
        DUE.is("law()", x.law(), -6);
        DUE.is("fault()", x.fault(), 5);
    }

    // ---- Promise 8: row

    private static SoleraCellar withRow(int... bytes) {
        SoleraCellar x = Made.busy();
        byte[] row = new byte[bytes.length];
        for (int i = 0; i < bytes.length; i++) {
            row[i] = (byte) bytes[i];
        }
        Due.put(x, row);
        return x;
    }

    static void p08AnEmptyTapeCantBe() {
        WATCH.refused("row() of nothing", () -> Made.busyWith(""), SoleraCellar::row, -6);
    }

    private static void comes(int tier, int size, int measures) {
        SoleraCellar x = withRow(tier, size, measures);
        DUE.is("row of " + tier + " " + size + " " + measures, x.row(), 1);
        DUE.is("its TIER", x.of(3, 0), tier);
        DUE.is("its SIZE", x.of(3, 1), size);
        DUE.is("its DROPS", x.of(3, 2), measures * 1000);
        DUE.is("its DROPS of AGE 0", x.of(3, 8), measures * 1000);
        DUE.is("leaks()", x.leaks(), 0);
    }

    private static void leaks(int... bytes) {
        WATCH.accepted("row of a leak", () -> withRow(bytes), SoleraCellar::row, 0, "count(5)", 0, "count(6)", 0, "leaks()", 1);
    }

    static void p08TheTierIsNoughtToFour() {
        comes(0, 9, 5);
        comes(4, 9, 5);
        leaks(5, 9, 5);
        leaks(255, 9, 5);
        leaks(128, 9, 5);
    }

    static void p08TheSizeIsOneTo255() {
        comes(1, 1, 1);
        comes(1, 255, 7);
        leaks(1, 0, 0);
        leaks(1, 0, 1);
    }

    static void p08NoMoreMeasuresThanItHasRoomFor() {
        comes(1, 9, 0);
        comes(1, 9, 9);
        comes(1, 255, 255);
        leaks(1, 9, 10);
        leaks(1, 254, 255);
    }

    static void p08TheTapeEndsWithinOne() {
        leaks(1);
        leaks(1, 9);
        SoleraCellar x = withRow(1, 9, 9, 2);
        DUE.is("four bytes", x.row(), 1);
        DUE.is("leaks()", x.leaks(), 1);
        x = withRow(1, 9, 9, 2, 9);
        DUE.is("five bytes", x.row(), 1);
        DUE.is("leaks() of five", x.leaks(), 1);
        x = withRow(1, 9, 9, 2, 9, 9);
        DUE.is("six bytes", x.row(), 2);
        DUE.is("leaks() of six", x.leaks(), 0);
    }

    static void p08BytesThatWereCutOffAreNothingToIt() {
        for (int n = 1; n <= 3; n++) {
            SoleraCellar x = new SoleraCellar();
            x.feed(0x01090501, 0x09050109, 0x05010905, 0, 0);
            x.end(n);
            DUE.is("row() of " + n, x.row(), n == 3 ? 1 : 0);
            DUE.is("leaks() of " + n, x.leaks(), n == 3 ? 0 : 1);
        }
    }

    static void p08ALeakIsNothingToTheNext() {
        SoleraCellar x = withRow(9, 9, 9, 2, 8, 7, 0, 0, 0, 3, 6, 5, 1);
        DUE.is("row()", x.row(), 2);
        DUE.is("leaks()", x.leaks(), 3);
        DUE.is("the first", x.of(3, 1), 8);
        DUE.is("the second", x.of(4, 1), 6);
    }

    static void p08ForANinthThereIsNoRoom() {
        SoleraCellar x = Made.cellar(0, 9, 0, 9, 0, 9, 0, 9, 0, 9, 0, 9, 0, 9);
        DUE.is("two where one has room", Due.row(x, 1, 5, 5, 2, 6, 6), 1);
        DUE.is("leaks()", x.leaks(), 1);
        DUE.is("the eighth", x.of(7, 2), 5000);
        DUE.is("casks", x.count(0), 8);
        DUE.is("row() of a full cellar", Due.row(x, 1, 5, 5), 0);
        DUE.is("it is not REFUSED", x.status(), 0);
        DUE.is("leaks() of it", x.leaks(), 1);
    }

    static void p08AFullTape() {
        SoleraCellar x = new SoleraCellar();
        byte[] row = new byte[400];
        java.util.Arrays.fill(row, (byte) 1);
        Due.put(x, row);
        DUE.is("row()", x.row(), 8);
        DUE.is("leaks(): 125 threes and one byte", x.leaks(), 126);
        DUE.is("the tape is empty then", x.count(6), 0);
    }

    static void p08NothingAheadOfItCanBeUndone() {
        SoleraCellar x = withRow(1, 9, 9);
        DUE.is("count(5) ahead", x.count(5), 5);
        x.row();
        DUE.is("count(5)", x.count(5), 0);
        DUE.is("undo()", x.undo(), -3);
    }

    // ---- Promise 9: leaks

    static void p09AheadOfAnyRow() {
        DUE.is("leaks()", new SoleraCellar().leaks(), 0);
        SoleraCellar x = new SoleraCellar();
        x.row();
        DUE.is("behind a REFUSED one", x.leaks(), 0);
    }

    static void p09OfTheLatestThatWasNotRefused() {
        SoleraCellar x = new SoleraCellar();
        Due.row(x, 9, 9, 9, 9);
        DUE.is("two", x.leaks(), 2);
        x.row();
        DUE.is("a REFUSED one leaves it", x.leaks(), 2);
        Due.row(x, 0, 1, 1);
        DUE.is("none", x.leaks(), 0);
    }

    static void p09ItIsNotKeptByImages() {
        SoleraCellar x = new SoleraCellar();
        x.image(0);
        Due.row(x, 9);
        x.back(0);
        DUE.is("leaks()", x.leaks(), 1);
    }

    static void p09ItChangesNothing() {
        WATCH.asked("leaks()", Made::busy, SoleraCellar::leaks, 1);
    }

    // ---- Promise 10: law

    static void p10TheNumbersGoFromNoughtToFive() {
        SoleraCellar x = new SoleraCellar();
        for (int law = 0; law < 6; law++) {
            DUE.is("law() " + law, Due.law(x, "loses " + law), law);
            DUE.is("count(3)", x.count(3), law + 1);
            DUE.is("the tape", x.count(6), 0);
        }
    }

    private static SoleraCellar sixLaws(String text) {
        SoleraCellar x = Made.busy();
        for (int law = 1; law < 6; law++) {
            Due.law(x, "loses 1");
        }
        Due.law(x, "pass");
        Due.orders(x, "pour;");
        Due.put(x, text);
        return x;
    }

    static void p10ForASeventhThereIsNoRoomAheadOfReadingIt() {
        WATCH.refused("a seventh", () -> sixLaws("loses 1"), SoleraCellar::law, -5, "count(6)", 0);
        WATCH.refused("a seventh that can't be", () -> sixLaws("loses"), SoleraCellar::law, -5, "count(6)", 0);
        WATCH.refused("a seventh of nothing", () -> sixLaws(""), SoleraCellar::law, -5);
    }

    static void p10ALawLeavesWhatCanBeUndone() {
        WATCH.accepted("law()", () -> Made.busyWith("loses 50"), SoleraCellar::law, 1,
            "count(3)", 2, "count(6)", 0, "fault()", NONE, "compare(1, 0)", 440);
    }

    static void p10BlanksAloneHaveTheirFaultAtTheEnd() {
        WATCH.refused("nothing", () -> Made.busyWith(""), SoleraCellar::law, -6, "fault()", 0);
        WATCH.refused("a blank", () -> Made.busyWith(" "), SoleraCellar::law, -6, "fault()", 1, "count(6)", 0);
        WATCH.refused("400 blanks", () -> Made.busyWith(" ".repeat(400)), SoleraCellar::law, -6, "fault()", 400, "count(6)", 0);
    }

    static void p10ATextThatCantBeLeavesAllElse() {
        WATCH.refused("law() of orders", () -> Made.busyWith("pass"), SoleraCellar::law, -6, "fault()", 0, "count(6)", 0);
        WATCH.refused("law() cut off", () -> Made.busyWith("loses 1;loses"), SoleraCellar::law, -6, "fault()", 13, "count(6)", 0);
    }

    private static void lawHas(int place, String text) {
        SoleraCellar x = new SoleraCellar();
        DUE.is("law '" + text + "'", Due.law(x, text), place == NONE ? 0 : -6);
        DUE.is("FAULT of law '" + text + "'", x.fault(), place);
        DUE.is("count(3) behind '" + text + "'", x.count(3), place == NONE ? 1 : 0);
    }

    private static void orderHas(int place, String text) {
        SoleraCellar x = new SoleraCellar();
        DUE.is("plan '" + text + "'", Due.plan(x, text), place == NONE ? 0 : -6);
        DUE.is("FAULT of plan '" + text + "'", x.fault(), place);
        DUE.is("count(4) behind '" + text + "'", x.count(4), place == NONE ? 1 : 0);
        SoleraCellar y = new SoleraCellar();
        int answer = Due.orders(y, text);
        DUE.isTrue("orders '" + text + "' are read", (answer == -6) == (place != NONE));
        DUE.is("FAULT of orders '" + text + "'", y.fault(), place);
    }

    static void p10TokensAreTheLongestRows() {
        lawHas(NONE, "loses1if1=1and2=2");
        lawHas(0, "losess 1");
        lawHas(0, "lose 1");
        lawHas(0, "lo ses 1");
        lawHas(8, "loses 1 0");
        lawHas(7, "loses 1x");
        lawHas(8, "bars if notnot 1=1");
        lawHas(10, "bars if 1<=2");
        lawHas(10, "bars if 1==2");
        lawHas(12, "bars if 1=1 orelse 1=1");
        lawHas(5, "bars ifx 1=1");
        lawHas(NONE, "loses size");
        lawHas(NONE, "loses 90");
    }

    static void p10LettersAndDigitsEndWhereTheyEnd() {
        // 96 and 123 stand beside the letters, 47 and 58 beside the digits.
        lawHas(4, "bars" + (char) 96);
        lawHas(4, "bars" + (char) 123);
        lawHas(7, "loses 1" + (char) 58);
        lawHas(8, "loses 1" + (char) 47);
        lawHas(0, "Bars");
        lawHas(4, "barsZ");
        lawHas(1, " BARS");
        lawHas(7, "loses 1" + (char) 255);
        lawHas(7, "loses 1" + (char) 128);
    }

    static void p10AnyBlanksMayStandBetween() {
        lawHas(NONE, "   loses   1   ;   bars   if   1   =   1   ");
        lawHas(NONE, "bars" + " ".repeat(396));
        lawHas(NONE, " ".repeat(396) + "bars");
        lawHas(2, "  barz");
        lawHas(5, "loses\t1");
        lawHas(4, "bars\n");
        lawHas(4, "bars" + (char) 0);
        lawHas(4, "bars" + (char) 160);
        lawHas(4, "bars" + (char) 33);
        lawHas(4, "bars" + (char) 31);
    }

    static void p10TwelveClausesAreTheMost() {
        lawHas(NONE, "bars" + ";bars".repeat(11));
        lawHas(60, "bars" + ";bars".repeat(12));
        lawHas(63, "bars;".repeat(12) + "   bars");
        lawHas(60, "bars;".repeat(12) + ")");
        lawHas(62, "bars;".repeat(12) + "  ");
        lawHas(59, "bars" + ";bars".repeat(11) + ")");
        lawHas(62, "bars" + ";bars".repeat(11) + " if");
    }

    static void p10TheTwelfthClauseIsAsked() {
        SoleraCellar x = Made.under("loses 1" + ";loses 2 if 1=2".repeat(10) + ";loses 12", 0, 9);
        DUE.is("of(0, 5)", x.of(0, 5), 12);
    }

    static void p10FiftyPartsAreTheMost() {
        lawHas(NONE, "loses " + "1+".repeat(49) + "1");
        lawHas(106, "loses " + "1+".repeat(50) + "1");
        lawHas(106, "loses " + "1+".repeat(50) + "mean");
        lawHas(107, "loses " + "1+".repeat(50) + "[1");
        lawHas(NONE, "loses " + "1+".repeat(48) + "[cask]");
        lawHas(107, "loses " + "1+".repeat(50) + " 1");
    }

    static void p10ThePartsOfAllClausesCount() {
        lawHas(NONE, "loses " + "1+".repeat(24) + "1;loses " + "1+".repeat(24) + "mean");
        lawHas(115, "loses " + "1+".repeat(24) + "1;loses " + "1+".repeat(24) + "1 if mean=1");
        lawHas(NONE, "loses " + "1+".repeat(47) + "1 if 1=1");
        lawHas(109, "loses " + "1+".repeat(48) + "1 if 1=1");
    }

    static void p10EightBracketsAreTheMost() {
        lawHas(NONE, "loses " + "[".repeat(8) + "1" + "]".repeat(8));
        lawHas(14, "loses " + "[".repeat(9) + "1" + "]".repeat(9));
        lawHas(NONE, "bars if " + "(".repeat(8) + "1=1" + ")".repeat(8));
        lawHas(16, "bars if " + "(".repeat(9) + "1=1" + ")".repeat(9));
        lawHas(NONE, "bars if " + "(".repeat(5) + "[".repeat(3) + "1" + "]".repeat(3) + "=1" + ")".repeat(5));
        lawHas(16, "bars if " + "(".repeat(5) + "[".repeat(4) + "1" + "]".repeat(4) + "=1" + ")".repeat(5));
        lawHas(16, "bars if " + "(".repeat(8) + "[1]=1" + ")".repeat(8));
    }

    static void p10BracketsBesideOneAnotherAreNotWithin() {
        String eight = "[".repeat(8) + "1" + "]".repeat(8);
        lawHas(NONE, "loses " + eight + "+" + eight + ";loses " + eight);
        lawHas(NONE, "bars if " + "(1=1) and ".repeat(12) + "(1=1)");
        lawHas(NONE, "bars if ".concat("(".repeat(8)) + "1=1" + ")".repeat(8) + " or " + eight + "=1");
        lawHas(NONE, "loses " + "[1]+".repeat(20) + "1");
    }

    static void p10BracketsOfATextWithAFaultAreNothingToTheNext() {
        SoleraCellar x = new SoleraCellar();
        DUE.is("a fault within eight", Due.law(x, "loses [[[[[[[["), -6);
        DUE.is("eight", Due.law(x, "loses [[[[[[[[1]]]]]]]]"), 0);
        DUE.is("a fault within four", Due.orders(x, "pass if ((((1"), -6);
        DUE.is("eight of orders", Due.plan(x, "pass if ((((((((1=1))))))))"), 0);
    }

    static void p10PartsOfATextWithAFaultAreNothingToTheNext() {
        SoleraCellar x = new SoleraCellar();
        DUE.is("a fault behind 50", Due.law(x, "loses " + "1+".repeat(50)), -6);
        DUE.is("50", Due.law(x, "loses " + "1+".repeat(49) + "1"), 0);
    }

    static void p10NumbersGoToAThousand() {
        lawHas(NONE, "loses 0");
        lawHas(NONE, "loses 1000");
        lawHas(6, "loses 1001");
        lawHas(NONE, "loses 0001000");
        lawHas(6, "loses 10000");
        lawHas(6, "loses 4294967296");
        lawHas(6, "loses 4294967297");
        lawHas(6, "loses 18446744073709551617");
        lawHas(10, "bars if 1=1001");
    }

    static void p10WhereAClauseCantBegin() {
        for (String text : new String[] {"1", ";", "if 1=1", "pour 1 in 0", "pass", "(", "times", "cask"}) {
            lawHas(0, text);
            lawHas(5, "bars;" + text);
        }
        lawHas(5, "bars;");
        lawHas(5, "bars;;bars");
        lawHas(7, "bars;  ");
    }

    static void p10WhereASumCantGoOn() {
        String[] texts = {"", ";", ")", "]", "(1)", "if", "-1", "+1", "*", "=", "loses", "done", "latest", "bottled", "room", "times"};
        for (String text : texts) {
            lawHas(6, "loses " + text);
            lawHas(8, "loses 1+" + text);
            lawHas(8, "loses 1-" + text);
            lawHas(8, "loses 1*" + text);
            lawHas(8, "loses 1/" + text);
            lawHas(8, "loses 1%" + text);
            lawHas(7, "loses [" + text);
            lawHas(10, "bars if 1=" + text);
        }
        lawHas(7, "yields ");
        lawHas(8, "loses [1");
        lawHas(8, "loses [1)");
        lawHas(8, "loses [1=1]");
        lawHas(9, "loses [1]]");
    }

    static void p10WhatCantBeBehindASum() {
        for (String text : new String[] {"1", "mean", "]", ")", "(", "[", "=1", "and", "or", "not", "times 2", "loses", "in"}) {
            lawHas(8, "loses 1 " + text);
            lawHas(11, "loses mean " + text);
        }
        lawHas(5, "bars 1");
        lawHas(5, "bars bars");
        lawHas(5, "bars times 2");
    }

    static void p10WhereATestCantGoOn() {
        for (String text : new String[] {"", ";", ")", "and", "or", "=1", "<", "if"}) {
            lawHas(8, "bars if " + text);
            lawHas(9, "bars if (" + text);
            lawHas(12, "bars if not " + text);
            lawHas(15, "bars if 1=1 or " + text);
            lawHas(16, "bars if 1=1 and " + text);
        }
        lawHas(9, "bars if 1");
        lawHas(10, "bars if 1 2=2");
        lawHas(10, "bars if (1)=1");
        lawHas(11, "bars if 1=1=1");
        lawHas(12, "bars if 1=1 not 1=1");
        lawHas(12, "bars if (1=1");
        lawHas(12, "bars if (1=1]");
        lawHas(12, "bars if (1=1;bars");
        lawHas(11, "bars if 1=1)");
        lawHas(12, "bars if 1=1 if 1=1");
        lawHas(13, "bars if (1=1)=1");
        lawHas(8, "bars if ]");
    }

    static void p10ATextOf400Bytes() {
        String text = "bars if " + "not ".repeat(97) + "1=1 ";
        DUE.is("its length", text.length(), 400);
        lawHas(NONE, text);
        SoleraCellar x = Made.under(text, 0, 9);
        DUE.is("97 times not", x.of(0, 7), 0);
        lawHas(400, "loses 1+" + " ".repeat(392));
    }

    private static void tells(String law, int loses) {
        DUE.is("LOSES by '" + law + "'", Made.under(law, 0, 9).of(0, 5), loses);
    }

    /** What a CASK LOSES by a law of this TEST: 5 if it is so, 2 if it is BROKEN, 3 if it is not so. */
    private static void isSo(String test) {
        tells("loses 2;loses 3 if not (" + test + ");loses 5 if " + test, 5);
    }

    private static void isNotSo(String test) {
        tells("loses 2;loses 3 if not (" + test + ");loses 5 if " + test, 3);
    }

    private static void isBroken(String test) {
        tells("loses 2;loses 3 if not (" + test + ");loses 5 if " + test, 2);
    }

    static void p10ASumIsBrokenBeyondAThousandMillions() {
        isSo("1000*1000*1000=1000*1000*1000");
        isSo("1000*1000*1000>1000*1000*1000-1");
        isBroken("1000*1000*1000+1>0");
        isBroken("1+1000*1000*1000>0");
        isSo("0-1000*1000*1000<0");
        isBroken("0-1000*1000*1000-1<0");
        isBroken("1000*1000*[1000+1]>0");
        isBroken("[1000*1000*1000]*[1000*1000*1000]>0");
        isBroken("[0-1000*1000*1000]*[1000*1000*1000]<0");
        isSo("[0-1000*1000*1000]*[0-1]=1000*1000*1000");
    }

    static void p10APartThatIsBrokenMakesAllOfItBroken() {
        isBroken("1000*1000*1000*2/2=1");
        isBroken("1000*1000*1000+1-1=1");
        isBroken("0*[1000*1000*1000*1000]=0");
        isBroken("0*[1/0]=0");
        isBroken("1=1/0");
        isBroken("not 1/0=1");
        isBroken("(1/0=1)");
    }

    static void p10ABrokenSumIsNothingToTheNext() {
        SoleraCellar x = Made.under("loses 1+2*3;loses 4+5*[6+7*[8+9/0]];yields 4+5*[6+1/0]", 0, 9);
        for (int n = 0; n < 60; n++) {
            DUE.is("of(0, 5)", x.of(0, 5), 7);
            DUE.is("of(0, 6)", x.of(0, 6), 999);
        }
    }

    static void p10DividedByNought() {
        isBroken("1/0=0");
        isBroken("0/0=0");
        isBroken("1%0=0");
        isBroken("0%0=0");
        isBroken("1/[1-1]=0");
        isSo("0/1=0");
        isSo("0%1=0");
    }

    static void p10CutTowardsNought() {
        isSo("7/2=3");
        isSo("[0-7]/2=0-3");
        isSo("7/[0-2]=0-3");
        isSo("[0-7]/[0-2]=3");
        isSo("7%2=1");
        isSo("[0-7]%2=0-1");
        isSo("7%[0-2]=1");
        isSo("[0-7]%[0-2]=0-1");
        isSo("[0-1]/2=0");
    }

    static void p10SumsGoFromTheLeft() {
        isSo("9-3-2=4");
        isSo("40/3/2=6");
        isSo("17%7*2=6");
        isSo("2+3*4=14");
        isSo("[2+3]*4=20");
        isSo("2*3+4*5=26");
        isSo("20-6/3=18");
    }

    static void p10LessMoreAndTheSame() {
        isSo("1<2");
        isNotSo("2<2");
        isNotSo("3<2");
        isSo("3>2");
        isNotSo("2>2");
        isNotSo("1>2");
        isSo("2=2");
        isNotSo("1=2");
        isNotSo("3=2");
    }

    static void p10OrAsksWhatStandsBehindOnlyIfItMatters() {
        isSo("1=1 or 1/0=1");
        isBroken("1=2 or 1/0=1");
        isBroken("1/0=1 or 1=1");
        isSo("1=2 or 1=1 or 1/0=1");
        isSo("1=1 or 1/0=1 or 1/0=1");
        isSo("1=1 or 1/0=1 and 1=1");
        isBroken("1=2 or 1/0=1 or 1=1");
        isNotSo("1=2 or 1=2");
        isSo("1=2 or 1=1");
    }

    static void p10AndAsksWhatStandsBehindOnlyIfItMatters() {
        isNotSo("1=2 and 1/0=1");
        isBroken("1=1 and 1/0=1");
        isBroken("1/0=1 and 1=2");
        isNotSo("1=1 and 1=2 and 1/0=1");
        isNotSo("1=2 and 1/0=1 and 1/0=1");
        isSo("1=2 and 1/0=1 or 1=1");
        isBroken("1=1 and 1/0=1 or 1=1");
        isNotSo("(1=2 and 1/0=1) or 1=2");
        isNotSo("(1=2 or 1=2) and 1/0=1");
        isSo("1=1 and 1=1");
        isNotSo("1=1 and 1=2");
    }

    static void p10AndBindsMoreThanOrAndNotTheMost() {
        isSo("1=1 or 1=1 and 1=2");
        isNotSo("(1=1 or 1=1) and 1=2");
        isSo("1=2 and 1=2 or 1=1");
        isSo("not 1=2 or 1=1");
        isSo("not 1=1 or 1=1");
        isNotSo("not (1=1 or 1=1)");
        isNotSo("not 1=2 and 1=2");
        isSo("not not 1=1");
        isNotSo("not not not 1=1");
    }

    static void p10TheWordsOfAnEmptyCask() {
        SoleraCellar x = Made.under("loses mean+2;yields full;bars if size=9 and tier=4 and cask=0 and year=0 and mood=0", 4, 9);
        DUE.is("mean is -1", x.of(0, 5), 1);
        DUE.is("full is 0", x.of(0, 6), 0);
        DUE.is("the others", x.of(0, 7), 1);
    }

    static void p10TheWordsAreCut() {
        SoleraCellar x = Made.cellar(0, 99);
        x.pour(0, 3);
        Made.pass(x, 2);
        x.pour(0, 1);
        Due.law(x, "loses mean");
        x.force(0);
        DUE.is("MEAN", x.of(0, 3), 1500);
        DUE.is("mean", x.of(0, 5), 1);
        SoleraCellar y = Made.oneDropShort(0);
        Due.law(y, "yields full;loses 5 if mean=1");
        y.force(1);
        DUE.is("full of 999 drops", y.of(0, 6), 0);
        DUE.is("mean of 999 drops", y.of(0, 5), 5);
        SoleraCellar z = Made.oneDropOver();
        Due.law(z, "yields full");
        z.force(1);
        DUE.is("full of 26,001 drops", z.of(0, 6), 26);
    }

    /** MEAN is 1998, so that it is 1 in whole YEARS, but only just. */
    private static SoleraCellar nearlyTwo() {
        SoleraCellar x = Made.cellar(0, 999);
        x.pour(0, 998);
        x.pass();
        x.pour(0, 1);
        x.pass();
        return x;
    }

    static void p10TheMeanInWholeYearsIsCut() {
        SoleraCellar x = nearlyTwo();
        DUE.is("MEAN", x.of(0, 3), 1998);
        Due.law(x, "loses mean");
        x.force(0);
        DUE.is("mean", x.of(0, 5), 1);
    }

    static void p10TheMeanOfOneDrop() {
        SoleraCellar x = Made.oneDropOver();
        x.bottle(0, 26);
        Due.law(x, "loses mean+5;yields full");
        x.force(1);
        DUE.is("mean", x.of(0, 5), 6);
        DUE.is("full", x.of(0, 6), 0);
        DUE.is("mean of an empty one", x.of(1, 5), 4);
    }

    static void p10TheWordsAtTheirMost() {
        SoleraCellar x = Made.eight(4, 999);
        x.terms(2, 9);
        x.pour(7, 999);
        Made.pass(x, 20);
        x.terms(0, 999);
        Due.law(x, "bars if cask=7 and tier=4 and size=999 and full=999 and mean=19 and year=999 and mood=9");
        x.force(0);
        DUE.is("of(7, 7)", x.of(7, 7), 1);
        DUE.is("of(6, 7)", x.of(6, 7), 0);
    }

    // ---- Promise 11: plan

    static void p11TheNumbersGoFromNoughtToThree() {
        SoleraCellar x = new SoleraCellar();
        for (int plan = 0; plan < 4; plan++) {
            DUE.is("plan() " + plan, Due.plan(x, "pass"), plan);
            DUE.is("count(4)", x.count(4), plan + 1);
            DUE.is("the tape", x.count(6), 0);
        }
    }

    private static SoleraCellar fourPlans(String text) {
        SoleraCellar x = Made.busy();
        for (int plan = 1; plan < 4; plan++) {
            Due.plan(x, "pass");
        }
        Due.law(x, "bars;");
        Due.put(x, text);
        return x;
    }

    static void p11ForAFifthThereIsNoRoomAheadOfReadingIt() {
        WATCH.refused("a fifth", () -> fourPlans("pass"), SoleraCellar::plan, -5, "count(6)", 0);
        WATCH.refused("a fifth that can't be", () -> fourPlans("pour"), SoleraCellar::plan, -5, "count(6)", 0);
        WATCH.refused("a fifth of nothing", () -> fourPlans(""), SoleraCellar::plan, -5);
    }

    static void p11APlanLeavesWhatCanBeUndoneAndIsNotRun() {
        WATCH.accepted("plan()", () -> Made.busyWith("bottle 2 from 0"), SoleraCellar::plan, 1,
            "count(4)", 2, "count(6)", 0, "fault()", NONE, "yields(1, 2)", 4);
    }

    static void p11BlanksAloneHaveTheirFaultAtTheEnd() {
        WATCH.refused("nothing", () -> Made.busyWith(""), SoleraCellar::plan, -6, "fault()", 0);
        WATCH.refused("blanks", () -> Made.busyWith("   "), SoleraCellar::plan, -6, "fault()", 3, "count(6)", 0);
        WATCH.refused("a law", () -> Made.busyWith("bars"), SoleraCellar::plan, -6, "fault()", 0, "count(6)", 0);
    }

    static void p11TimesAreOneTo20() {
        orderHas(NONE, "pass times 1");
        orderHas(NONE, "pass times 20");
        orderHas(NONE, "pass times 020");
        orderHas(11, "pass times 0");
        orderHas(11, "pass times 00");
        orderHas(11, "pass times 21");
        orderHas(11, "pass times 1001");
        orderHas(11, "pass times 4294967297");
        orderHas(11, "pass times -1");
        orderHas(11, "pass times [1]");
        orderHas(11, "pass times year");
        orderHas(10, "pass times");
        orderHas(12, "pass times 1+1");
        orderHas(13, "pass times 2 times 2");
        orderHas(12, "pass if 1=1 times 2");
        orderHas(NONE, "pass times 2 if 1=1");
    }

    static void p11TheCaskOfAWordIsNoughtToSeven() {
        for (String word : new String[] {"full", "room", "mean"}) {
            orderHas(NONE, "pour " + word + " 0 in 0");
            orderHas(NONE, "pour " + word + " 7 in 0");
            orderHas(NONE, "pour " + word + " 007 in 0");
            orderHas(10, "pour " + word + " 8 in 0");
            orderHas(10, "pour " + word + " 1000 in 0");
            orderHas(10, "pour " + word + " 4294967296 in 0");
            orderHas(10, "pour " + word + " in 0");
            orderHas(10, "pour " + word + " [1] in 0");
            orderHas(10, "pour " + word + " year in 0");
            orderHas(10, "pour " + word + " -1 in 0");
            orderHas(9, "pour " + word);
            orderHas(12, "pour " + word + " 1 2 in 0");
        }
        for (String word : new String[] {"year", "done"}) {
            orderHas(10, "pour " + word + " 1 in 0");
        }
        orderHas(12, "pour latest 1 in 0");
        orderHas(13, "pour bottled 1 in 0");
    }

    static void p11CasksAndTimesAreNoParts() {
        orderHas(NONE, "pour " + "full 0+".repeat(48) + "1 in 1 times 20");
        orderHas(348, "pour " + "full 0+".repeat(48) + "1 in 1+full 0");
        orderHas(NONE, "pour " + "1+".repeat(48) + "1 in full 7 times 2");
        orderHas(108, "pour " + "1+".repeat(49) + "1 in 1");
    }

    static void p11TwelveClausesFiftyPartsEightBrackets() {
        orderHas(NONE, "pass" + ";pass".repeat(11));
        orderHas(60, "pass" + ";pass".repeat(12));
        orderHas(60, "pass;".repeat(12));
        orderHas(NONE, "pour " + "[".repeat(8) + "1" + "]".repeat(8) + " in " + "[".repeat(8) + "1" + "]".repeat(8));
        orderHas(13, "pour " + "[".repeat(9) + "1" + "]".repeat(9) + " in 1");
        orderHas(NONE, "bottle 1 from 0;pass if " + "1+".repeat(46) + "1=1");
        orderHas(120, "bottle 1 from 0;pass if " + "1+".repeat(47) + "1=1");
    }

    static void p11WhereAClauseCantGoOn() {
        orderHas(4, "pour");
        orderHas(5, "pour in 0");
        orderHas(6, "pour 1");
        orderHas(7, "pour 1 from 0");
        orderHas(7, "pour 1 0");
        orderHas(9, "pour 1 in");
        orderHas(12, "pour 1 in 0 in 0");
        orderHas(12, "pour 1 in 0 from 0");
        orderHas(4, "rack");
        orderHas(6, "rack 1");
        orderHas(7, "rack 1 in 0 from 1");
        orderHas(11, "rack 1 from");
        orderHas(12, "rack 1 from in 0");
        orderHas(13, "rack 1 from 1");
        orderHas(14, "rack 1 from 1 from 0");
        orderHas(14, "rack 1 from 1 times 2");
        orderHas(16, "rack 1 from 1 in");
        orderHas(NONE, "rack 1 from 1 in 0");
        orderHas(19, "rack 1 from 1 in 0 in 0");
        orderHas(6, "bottle");
        orderHas(8, "bottle 1");
        orderHas(9, "bottle 1 in 0");
        orderHas(13, "bottle 1 from");
        orderHas(NONE, "bottle 1 from 0");
        orderHas(16, "bottle 1 from 0 in 0");
        orderHas(5, "pass 1");
        orderHas(5, "pass pass");
        orderHas(7, "pass if");
        orderHas(9, "pass if 1");
        orderHas(5, "pass;");
        orderHas(5, "pass;;pass");
        orderHas(0, "loses 1");
        orderHas(0, "bars");
    }

    static void p11TheWordsOfLawsAreNoneOfIts() {
        for (String word : new String[] {"cask", "tier", "size", "mood", "pour", "times"}) {
            orderHas(5, "pour " + word + " in 0");
        }
    }

    // ---- Promise 12: orders

    static void p12BlanksAloneHaveTheirFaultAtTheEnd() {
        WATCH.refused("nothing", () -> Made.busyWith(""), SoleraCellar::orders, -6, "fault()", 0, "stopped()", NONE);
        WATCH.refused("blanks", () -> Made.busyWith("  "), SoleraCellar::orders, -6, "fault()", 2, "stopped()", NONE, "count(6)", 0);
        WATCH.refused("a law", () -> Made.busyWith("bars"), SoleraCellar::orders, -6, "fault()", 0, "stopped()", NONE, "count(6)", 0);
    }

    static void p12HowManyWereRun() {
        SoleraCellar x = Made.cellar(0, 99);
        DUE.is("none", Due.orders(x, "pass if 1=2"), 0);
        DUE.is("status()", x.status(), 0);
        DUE.is("one", Due.orders(x, "pass;pass if 1=2"), 1);
        DUE.is("the most", Due.orders(x, "pass times 20" + ";pass times 20".repeat(11)), 240);
        DUE.is("YEAR", x.count(13), 241);
        DUE.is("the tape", x.count(6), 0);
    }

    static void p12ThereIsAlwaysRoomForOrders() {
        SoleraCellar x = sixLaws("pass");
        DUE.is("with six laws", x.orders(), 1);
        x = fourPlans("pass");
        DUE.is("with four plans", x.orders(), 1);
    }

    private static void cantBe(String orders, int clause) {
        WATCH.refused("orders '" + orders + "'", () -> Made.busyWith(orders), SoleraCellar::orders, -3,
            "count(6)", 0, "fault()", NONE, "stopped()", clause);
    }

    static void p12OneThatCantBeEndsItAndAllIsAsItWas() {
        cantBe("pour 0 in 0", 0);
        cantBe("pour 1000 in 0", 0);
        cantBe("pour 0-1 in 0", 0);
        cantBe("pour 1 in 3", 0);
        cantBe("pour 1 in 0-1", 0);
        cantBe("pour 999 in 0", 0);
        cantBe("pass;rack 0 from 2 in 1", 1);
        cantBe("pass;rack 1 from 3 in 1", 1);
        cantBe("pass;rack 1 from 2 in 3", 1);
        cantBe("pass;rack 1 from 2 in 0", 1);
        cantBe("pass;rack 1 from 0 in 0", 1);
        cantBe("bottle 1 from 0;bottle 1000 from 0", 1);
        cantBe("bottle 1 from 0;bottle 1 from 3", 1);
        cantBe("bottle 1 from 0;bottle 1 from 1", 1);
        cantBe("pass" + ";pass".repeat(10) + ";bottle 99 from 0", 11);
    }

    static void p12ABrokenSumEndsIt() {
        cantBe("pour 1/0 in 0", 0);
        cantBe("pour 1 in 0/0", 0);
        cantBe("rack 1/0 from 2 in 1", 0);
        cantBe("rack 1 from 2%0 in 1", 0);
        cantBe("rack 1 from 2 in 1/0", 0);
        cantBe("bottle 1/0 from 0", 0);
        cantBe("bottle 1 from 0/0", 0);
        cantBe("pass;pour 1000*1000*1000+1 in 0", 1);
    }

    static void p12ABrokenIfIsNotRun() {
        SoleraCellar x = Made.cellar(0, 9);
        DUE.is("orders()", Due.orders(x, "pour 1 in 9 if 1/0=1;pour 1/0 in 0 if 1=2;pass"), 1);
        DUE.is("stopped()", x.stopped(), NONE);
    }

    static void p12OrAndAndAskOnlyWhatMatters() {
        SoleraCellar x = Made.cellar(0, 9);
        DUE.is("or", Due.orders(x, "pass if 1=1 or 1/0=1;pass if 1/0=1 or 1=1"), 1);
        DUE.is("and", Due.orders(x, "pass if not (1=2 and 1/0=1);pass if not (1=1 and 1/0=1)"), 1);
        DUE.is("beyond", Due.orders(x, "pass if 1000*1000*1000>0;pass if 1000*1000*1000+1>0"), 1);
        DUE.is("beyond, the other way", Due.orders(x, "pass if 0-1000*1000*1000<0;pass if 0-1000*1000*1000-1<0"), 1);
    }

    static void p12EachTimeItsIfIsAsked() {
        SoleraCellar x = Made.cellar(0, 9);
        DUE.is("orders()", Due.orders(x, "pour 1 in 0 times 20 if full 0<9"), 9);
        DUE.is("of(0, 2)", x.of(0, 2), 9000);
        DUE.is("BROKEN from the fifth on", Due.orders(x, "bottle 1 from 0 times 20 if 1/[full 0-5]<9"), 4);
        DUE.is("of(0, 2) then", x.of(0, 2), 5000);
    }

    static void p12TheTimesThatCantBe() {
        cantBe("pass times 20;pour 1 in 2 times 16", 1);
        SoleraCellar x = Made.busy();
        DUE.is("15 can be", Due.orders(x, "pass times 20;pour 1 in 2 times 15"), 35);
    }

    static void p12PassAt999CantBe() {
        SoleraCellar x = Made.cellar(0, 9);
        x.terms(0, 979);
        DUE.is("to 999", Due.orders(x, "pass times 20"), 20);
        DUE.is("YEAR", x.count(13), 999);
        DUE.is("beyond", Due.orders(x, "pass"), -3);
        x.terms(0, 980);
        DUE.is("20 from 980", Due.orders(x, "pass times 20"), -3);
        DUE.is("YEAR is as it was", x.count(13), 980);
    }

    static void p12NotBarredAndNoMoreThanItYields() {
        SoleraCellar x = Made.under("yields 2;bars if full>6", 0, 9, 1, 9);
        DUE.is("orders()", Due.orders(x, "pour 6 in 1;rack 2 from 1 in 0;bottle 2 from 0"), 3);
        DUE.is("more than it YIELDS", Due.orders(x, "rack 3 from 1 in 0"), -3);
        DUE.is("BARRED by what was poured", Due.orders(x, "pour 3 in 1;rack 1 from 1 in 0"), -3);
        DUE.is("stopped()", x.stopped(), 1);
        DUE.is("of(1, 2)", x.of(1, 2), 4000);
    }

    /** Each TEST is so in the orders of this cellar, which goes back then. */
    private static void runs(SoleraCellar x, String... tests) {
        x.image(0);
        for (String test : tests) {
            DUE.is("orders if " + test, Due.orders(x, "pour 1 in 0 if " + test), 1);
            x.back(0);
        }
    }

    static void p12TheWordsWithoutSuchACask() {
        SoleraCellar x = Made.cellar(0, 9);
        runs(x, "full 1=0-1", "room 1=0-1", "mean 1=0-1", "full 7=0-1", "room 7=0-1", "mean 7=0-1");
    }

    static void p12TheWordsOfAnEmptyAndAFullCask() {
        SoleraCellar x = Made.cellar(0, 9, 1, 999);
        runs(x, "full 0=0", "room 0=9", "mean 0=0-1", "room 1=999");
        x.pour(1, 999);
        Made.pass(x, 20);
        runs(x, "full 1=999", "room 1=0", "mean 1=19", "year=20");
    }

    static void p12TheWordsAreCut() {
        SoleraCellar x = Made.oneDropOver();
        DUE.is("full, room of 26,001", Due.orders(x, "pass if full 0=26 and room 0=0 and mean 0=1"), 1);
        SoleraCellar y = Made.oneDropShort(0);
        DUE.is("full, room of 999", Due.orders(y, "pass if full 0=0 and room 0=8 and mean 0=1"), 1);
    }

    static void p12TheMeanInWholeYearsIsCut() {
        DUE.is("of MEAN 1998", Due.orders(nearlyTwo(), "pass if mean 0=1"), 1);
        SoleraCellar x = Made.oneDropOver();
        x.bottle(0, 26);
        DUE.is("of one drop", Due.orders(x, "pass if mean 0=1 and full 0=0 and room 0=26 and mean 1=0-1"), 1);
    }

    static void p12DoneAndLatestAreOfThisText() {
        SoleraCellar x = Made.cellar(0, 9);
        DUE.is("done", Due.orders(x, "pass if done=0;pass if done=1;pass if 1=2;pass times 2 if done>1"), 4);
        DUE.is("done again", Due.orders(x, "pass if done=0"), 1);
        x.pour(0, 4);
        x.pass();
        DUE.is("latest", Due.orders(x, "pass if latest=0-1;bottle 1 from 0;pass if latest=2000"), -6);
        DUE.is("latest of this text", Due.orders(x, "bottle 1 from 0 if latest=0-1;pass if latest=1000;bottle 1 from 0;pass if latest=2*1000"), 4);
        DUE.is("latest again", Due.orders(x, "pass if latest=0-1"), 1);
    }

    static void p12LatestOfNewWineIsNought() {
        SoleraCellar x = Made.cellar(0, 9);
        DUE.is("orders()", Due.orders(x, "pour 2 in 0;bottle 1 from 0;pass if latest=0"), 3);
    }

    static void p12BottledIsAtMost999999() {
        SoleraCellar x = Made.bottledShortBy(1);
        DUE.is("orders()", Due.orders(x, "pour 2 in 0;pass if bottled=999*1000+998;bottle 2 from 0;pass if bottled=999*1000+999"), 4);
        DUE.is("BOTTLED", x.count(1), 999_999);
        DUE.is("orders() that can't be", Due.orders(x, "pour 2 in 0;bottle 2 from 0;pour 0 in 0"), -3);
        DUE.is("BOTTLED then", x.count(1), 999_999);
    }

    // ---- Promise 13: fault

    static void p13OfTheLatestThatReadAText() {
        SoleraCellar x = new SoleraCellar();
        Due.law(x, "bars;");
        DUE.is("law()", x.fault(), 5);
        Due.plan(x, "pass;  ");
        DUE.is("plan()", x.fault(), 7);
        Due.orders(x, "pour 1 in 0 0");
        DUE.is("orders()", x.fault(), 12);
        Due.law(x, "bars");
        DUE.is("without one", x.fault(), NONE);
    }

    static void p13OrdersThatCantBeWereRead() {
        SoleraCellar x = new SoleraCellar();
        Due.law(x, "bars;");
        DUE.is("orders()", Due.orders(x, "pour 1 in 0"), -3);
        DUE.is("fault()", x.fault(), NONE);
    }

    static void p13WithoutRoomNothingIsRead() {
        SoleraCellar x = sixLaws("x");
        DUE.is("fault()", x.fault(), 4);
        DUE.is("law()", x.law(), -5);
        DUE.is("fault() behind law()", x.fault(), 4);
        SoleraCellar y = fourPlans("x");
        DUE.is("plan()", y.plan(), -5);
        DUE.is("fault() behind plan()", y.fault(), 5);
    }

    static void p13TheFirstAndTheLastPlace() {
        SoleraCellar x = new SoleraCellar();
        x.orders();
        DUE.is("of nothing", x.fault(), 0);
        Due.orders(x, "pass;" + " ".repeat(395));
        DUE.is("of 400 bytes", x.fault(), 400);
        Due.orders(x, "pass;" + " ".repeat(394) + "x");
        DUE.is("at the last byte", x.fault(), 399);
    }

    static void p13ItIsLeftByAllElse() {
        SoleraCellar x = new SoleraCellar();
        x.image(0);
        Due.law(x, "bars;");
        Due.row(x, 0, 9, 9);
        x.pour(0, 0);
        x.back(0);
        DUE.is("fault()", x.fault(), 5);
        WATCH.asked("fault()", Made::busy, SoleraCellar::fault, 5);
    }

    // ---- Promise 14: stopped

    static void p14TheFirstAndTheLastClause() {
        SoleraCellar x = Made.cellar(0, 9);
        Due.orders(x, "pour 0 in 0;pour 0 in 0");
        DUE.is("the first", x.stopped(), 0);
        Due.orders(x, "pass" + ";pass".repeat(10) + ";pour 0 in 0");
        DUE.is("the last", x.stopped(), 11);
    }

    static void p14ThatWasDoneOrRefusedByATextIsNone() {
        SoleraCellar x = Made.cellar(0, 9);
        DUE.is("ahead of any", x.stopped(), NONE);
        Due.orders(x, "pass;pour 0 in 0");
        DUE.is("one", x.stopped(), 1);
        Due.orders(x, "pass");
        DUE.is("done", x.stopped(), NONE);
        Due.orders(x, "pass;pour 0 in 0");
        Due.orders(x, "pass;pour");
        DUE.is("REFUSED by -6", x.stopped(), NONE);
        Due.orders(x, "pass;pour 0 in 0");
        x.orders();
        DUE.is("of nothing", x.stopped(), NONE);
    }

    static void p14ItIsLeftByAllElse() {
        SoleraCellar x = Made.cellar(0, 9);
        x.image(0);
        Due.orders(x, "pass;pour 0 in 0");
        Due.plan(x, "pass");
        Due.plan(x, "pass;");
        Due.law(x, "bars");
        x.pass();
        x.undo();
        x.back(0);
        DUE.is("stopped()", x.stopped(), 1);
        WATCH.asked("stopped()", Made::busy, SoleraCellar::stopped, 1);
    }

    // ---- Promise 15: force

    static void p15NoneIsAlwaysThere() {
        WATCH.accepted("force(NONE)", Made::busy, x -> x.force(NONE), 0, "count(12)", NONE, "of(0, 5)", 0, "of(1, 5)", 0, "of(2, 5)", 0,
            "yields(0, 2)", 2);
        WATCH.accepted("force(NONE) of a new one", SoleraCellar::new, x -> x.force(NONE), NONE);
    }

    static void p15TheFirstAndTheLastLaw() {
        SoleraCellar x = sixLaws("");
        DUE.is("force(5)", x.force(5), 0);
        DUE.is("count(12)", x.count(12), 5);
        DUE.is("of(0, 5)", x.of(0, 5), 1);
        DUE.is("force(6)", x.force(6), -2);
        DUE.is("count(12) still", x.count(12), 5);
        DUE.is("force(0)", x.force(0), 5);
        DUE.is("of(0, 5) then", x.of(0, 5), 10);
    }

    static void p15WithoutSuchALaw() {
        for (int law : new int[] {1, 6, -2, LEAST, MOST}) {
            WATCH.refused("force(" + law + ")", Made::busy, x -> x.force(law), -2);
        }
        WATCH.refused("force(0) of a new one", SoleraCellar::new, x -> x.force(0), -2);
    }

    static void p15ALawThatIsGoneByBackIsNone() {
        SoleraCellar x = Made.cellar(0, 9);
        x.image(0);
        Due.law(x, "bars");
        DUE.is("force(0) while it is there", x.force(0), NONE);
        x.back(0);
        DUE.is("in FORCE then", x.count(12), NONE);
        DUE.is("force(0)", x.force(0), -2);
    }

    static void p15ItLeavesWhatCanBeUndone() {
        WATCH.accepted("force(0) again", Made::busy, x -> x.force(0), 0);
    }
}
