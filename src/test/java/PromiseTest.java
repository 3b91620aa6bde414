/** Each promise of the document: ordinary inputs, the edges that it names, and wrong inputs. */
public final class PromiseTest {
    private static final Due DUE = new Due();

    public static void main(String[] args) {
        p01NewObject();
        p02Cask();
        p03Of();
        p04Old();
        p05Terms();
        p06And07Tape();
        p08And09Row();
        p10Law();
        p10LawFaults();
        p10LawLimits();
        p10LawMeanings();
        p10BrokenSums();
        p11Plan();
        p12Orders();
        p12OrderWords();
        p13Fault();
        p14Stopped();
        p15Force();
        p16Pour();
        p17Rack();
        p17TakingByAges();
        p18Bottle();
        p18BottledIsCut();
        p19Pass();
        p20Undo();
        p21ByPlan();
        p22OldEnough();
        p23Settled();
        p24Starves();
        p25Yields();
        p26Best();
        p27And28Tasted();
        p29And30CanBe();
        p31Few();
        p32Compare();
        p33And34Harvests();
        p35And36Images();
        p37Count();
        p38Status();
        oneDropLeft();
        justShortOfALabel();
        refusalsInTheirOrder();
        DUE.finish();
    }

    private static SoleraCellar cellar(int... tiersAndSizes) {
        SoleraCellar x = new SoleraCellar();
        for (int i = 0; i < tiersAndSizes.length; i += 2) {
            x.cask(tiersAndSizes[i], tiersAndSizes[i + 1]);
        }
        return x;
    }

    private static void p01NewObject() {
        SoleraCellar x = new SoleraCellar();
        int[] counts = {0, 0, 0, 0, 0, 0, 0, 0, 0, 0, 0, 0, -1, 0, 1, 0, 85};
        for (int what = 0; what < counts.length; what++) {
            DUE.is("new: count(" + what + ")", x.count(what), counts[what]);
        }
        DUE.is("new: status()", x.status(), 0);
        DUE.is("new: fault()", x.fault(), -1);
        DUE.is("new: stopped()", x.stopped(), -1);
        DUE.is("new: leaks()", x.leaks(), 0);
        DUE.is("new: canBe()", x.canBe(), 0);
        DUE.is("new: drawn(0, 0)", x.drawn(0, 0), -1);
        DUE.is("new: undo()", x.undo(), -3);
    }

    private static void p02Cask() {
        SoleraCellar x = new SoleraCellar();
        DUE.is("cask(-1, 1)", x.cask(-1, 1), -1);
        DUE.is("cask(5, 1)", x.cask(5, 1), -1);
        DUE.is("cask(0, 0)", x.cask(0, 0), -1);
        DUE.is("cask(0, 1000)", x.cask(0, 1000), -1);
        for (int i = 0; i < 8; i++) {
            DUE.is("cask " + i, x.cask(i % 5, i == 0 ? 1 : 999), i);
        }
        DUE.is("a ninth cask", x.cask(0, 1), -5);
        DUE.is("a ninth cask that can't be", x.cask(5, 1), -1);
        DUE.is("casks", x.count(0), 8);
        DUE.is("its size", x.of(0, 1), 1);
        DUE.is("its tier", x.of(4, 0), 4);
        DUE.is("a new one is empty", x.of(7, 2), 0);
    }

    private static void p03Of() {
        SoleraCellar x = cellar(2, 30);
        DUE.is("MEAN of an empty one", x.of(0, 3), -1);
        DUE.is("LABEL of an empty one", x.of(0, 4), -1);
        x.pour(0, 17);
        x.pass();
        x.pour(0, 3);
        DUE.is("of tier", x.of(0, 0), 2);
        DUE.is("of size", x.of(0, 1), 30);
        DUE.is("of drops", x.of(0, 2), 20000);
        DUE.is("of mean", x.of(0, 3), 850);
        DUE.is("of label: just 85 of 100 are 1 year old", x.of(0, 4), 1);
        DUE.is("of age 0", x.of(0, 8), 3000);
        DUE.is("of age 1", x.of(0, 9), 17000);
        DUE.is("of age 19", x.of(0, 27), 0);
        DUE.is("of loses without a law", x.of(0, 5), 0);
        DUE.is("of yields without a law", x.of(0, 6), 999);
        DUE.is("of barred without a law", x.of(0, 7), 0);
        x.terms(3, 86);
        DUE.is("of label with PART 86", x.of(0, 4), 0);
        x.terms(3, 1);
        DUE.is("of label with PART 1", x.of(0, 4), 1);
        DUE.is("of what -1", x.of(0, -1), -1);
        DUE.is("of what 28", x.of(0, 28), -1);
        DUE.is("of cask -1", x.of(-1, 0), -1);
        DUE.is("of cask 1", x.of(1, 0), -1);
        DUE.is("of cask at the far end", x.of(Integer.MIN_VALUE, Integer.MAX_VALUE), -1);
    }

    private static void p04Old() {
        SoleraCellar x = cellar(0, 3, 0, 3);
        x.pour(0, 1);
        x.pass();
        x.pour(0, 2);
        DUE.is("old 0", x.old(0, 0), 1_000_000_000_000L);
        DUE.is("old 1, cut", x.old(0, 1), 333_333_333_333L);
        DUE.is("old 2", x.old(0, 2), 0);
        DUE.is("old 19", x.old(0, 19), 0);
        x.pour(1, 1);
        DUE.is("old 19 with another cask", x.old(0, 19), 0);
        x.undo();
        DUE.is("old 20", x.old(0, 20), -1);
        DUE.is("old -1", x.old(0, -1), -1);
        DUE.is("old in an empty one", x.old(1, 0), -1);
        DUE.is("old in none", x.old(2, 0), -1);
        DUE.is("old in one below 0", x.old(-1, 0), -1);
        for (int i = 0; i < 25; i++) {
            x.pass();
        }
        DUE.is("19 stay 19", x.old(0, 19), 1_000_000_000_000L);
        DUE.is("MEAN 19", x.of(0, 3), 19000);
    }

    private static void p05Terms() {
        SoleraCellar x = new SoleraCellar();
        int[] first = {0, 1, 0, 85};
        int[] least = {0, 0, 0, 1};
        int[] most = {999, 10, 9, 100};
        for (int what = 0; what < 4; what++) {
            DUE.is("terms below", x.terms(what, least[what] - 1), -1);
            DUE.is("terms above", x.terms(what, most[what] + 1), -1);
            DUE.is("terms least", x.terms(what, least[what]), first[what]);
            DUE.is("terms most", x.terms(what, most[what]), least[what]);
            DUE.is("terms as counted", x.count(13 + what), most[what]);
        }
        DUE.is("terms(-1, 1)", x.terms(-1, 1), -1);
        DUE.is("terms(4, 1)", x.terms(4, 1), -1);
    }

    private static void p06And07Tape() {
        SoleraCellar x = new SoleraCellar();
        for (int i = 1; i <= 20; i++) {
            DUE.is("feed", x.feed(0, 0, 0, 0, 0), 20 * i);
        }
        DUE.is("feed to more than 400", x.feed(0, 0, 0, 0, 0), -1);
        DUE.is("the tape stays", x.count(6), 400);
        DUE.is("end(401)", x.end(401), -1);
        DUE.is("end(-1)", x.end(-1), -1);
        DUE.is("end(381)", x.end(381), 381);
        DUE.is("feed to 401", x.feed(0, 0, 0, 0, 0), -1);
        DUE.is("end(380)", x.end(380), 380);
        DUE.is("feed to 400", x.feed(0, 0, 0, 0, 0), 400);
        DUE.is("end(400)", x.end(400), 400);
        DUE.is("end(0)", x.end(0), 0);
        DUE.is("end(1) of nothing", x.end(1), -1);
        DUE.is("feed is not REFUSED", x.count(7), 0);
        DUE.is("the highest byte first", x.feed(0x04030201, 0xFF010003, 0x00010203, 0x04050607, 0), 20);
        x.end(6);
        DUE.is("row of them", x.row(), 2);
        DUE.is("a byte of 255", x.of(1, 1), 255);
        DUE.is("tier of it", x.of(0, 0), 4);
        DUE.is("size of it", x.of(0, 1), 3);
        DUE.is("drops of it", x.of(0, 2), 2000);
    }

    private static void p08And09Row() {
        SoleraCellar x = new SoleraCellar();
        DUE.is("row of nothing", x.row(), -6);
        DUE.is("row", Due.row(x, 0, 255, 255, 4, 1, 0, 5, 1, 0, 0, 0, 0, 1, 2, 3, 1, 2), 2);
        DUE.is("leaks: tier 5, size 0, more than it holds, one cut off", x.leaks(), 4);
        DUE.is("its drops", x.of(0, 8), 255000);
        DUE.is("an empty one", x.of(1, 2), 0);
        DUE.is("the tape is empty then", x.count(6), 0);
        DUE.is("row of nothing again", x.row(), -6);
        DUE.is("leaks are the latest's that was not REFUSED", x.leaks(), 4);
        DUE.is("row of leaks alone", Due.row(x, 9), 0);
        DUE.is("leaks", x.leaks(), 1);
        DUE.is("row beyond 8", Due.row(x, 0, 1, 1, 0, 1, 1, 0, 1, 1, 0, 1, 1, 0, 1, 1, 0, 1, 1, 0, 1, 1, 0), 6);
        DUE.is("leaks beyond 8", x.leaks(), 2);
        SoleraCellar z = new SoleraCellar();
        DUE.is("row without leaks", Due.row(z, 0, 1, 1, 0, 1, 1), 2);
        DUE.is("no leaks", z.leaks(), 0);
        Due.row(z, 0, 1);
        DUE.is("two bytes leak once", z.leaks(), 1);
        SoleraCellar y = cellar(0, 9);
        y.pour(0, 1);
        y.row();
        DUE.is("a REFUSED row leaves what can be undone", y.count(5), 1);
        Due.row(y, 9, 9, 9);
        DUE.is("a row does not, without casks neither", y.count(5), 0);
    }

    private static void p10Law() {
        SoleraCellar x = cellar(0, 9);
        x.pour(0, 1);
        for (int i = 0; i < 6; i++) {
            DUE.is("law " + i, Due.law(x, "loses " + i), i);
            DUE.is("the tape is empty then", x.count(6), 0);
        }
        DUE.is("blanks alone", Due.law(new SoleraCellar(), "   "), -6);
        Due.put(x, "loses [");
        DUE.is("a seventh", x.law(), -5);
        DUE.is("the tape is empty then, too", x.count(6), 0);
        DUE.is("it was not read", x.fault(), -1);
        DUE.is("laws", x.count(3), 6);
        DUE.is("it leaves what can be undone", x.count(5), 1);
        DUE.is("nothing is in FORCE by that", x.count(12), -1);
    }

    private static void lawFault(String text, int place) {
        SoleraCellar x = new SoleraCellar();
        DUE.is("law '" + text + "'", Due.law(x, text), place == -1 ? 0 : -6);
        DUE.is("FAULT of law '" + text + "'", x.fault(), place);
    }

    private static void orderFault(String text, int place) {
        SoleraCellar x = new SoleraCellar();
        DUE.is("plan '" + text + "'", Due.plan(x, text), place == -1 ? 0 : -6);
        DUE.is("FAULT of plan '" + text + "'", x.fault(), place);
        Due.orders(x, text);
        DUE.is("FAULT of orders '" + text + "'", x.fault(), place);
    }

    private static void p10LawFaults() {
        lawFault("", 0);
        lawFault("    ", 4);
        lawFault("loses", 5);
        lawFault("loses  ", 7);
        lawFault("loses 1000", -1);
        lawFault("loses 1001", 6);
        lawFault("loses 0001000", -1);
        lawFault("loses 99999999999999999999", 6);
        lawFault("loses1", -1);
        lawFault("losest1", 0);
        lawFault("  bars  ", -1);
        lawFault("bars;", 5);
        lawFault("bars;;bars", 5);
        lawFault("bars 1", 5);
        lawFault("bars if", 7);
        lawFault("bars if 1", 9);
        lawFault("bars if 1<", 10);
        lawFault("bars if 1<2<3", 11);
        lawFault("bars if (1)<2", 10);
        lawFault("bars if [1]<2", -1);
        lawFault("bars if (1<2", 12);
        lawFault("bars if (1<2]", 12);
        lawFault("bars if not not not 1<2", -1);
        lawFault("bars if notnot 1<2", 8);
        lawFault("bars if 1<2 or", 14);
        lawFault("bars if 1<2 and or 1<2", 16);
        lawFault("loses -1", 6);
        lawFault("loses 1-", 8);
        lawFault("loses 1 2", 8);
        lawFault("loses 1 times 2", 8);
        lawFault("loses done", 6);
        lawFault("loses full 1", 11);
        lawFault("loses cask+tier*size/full%mean-year+mood", -1);
        lawFault("loses 1 if 1=1 if 1=1", 15);
        lawFault("Loses 1", 0);
        lawFault("loses\t1", 5);
        lawFault("loses 1" + (char) 233, 7);
        lawFault("pass", 0);
        orderFault("", 0);
        orderFault("bars", 0);
        orderFault("pour 1 in 0", -1);
        orderFault("pour1in0times20if1=1", -1);
        orderFault("pour 1 from 0", 7);
        orderFault("pour 1 in", 9);
        orderFault("rack 1 from 1", 13);
        orderFault("rack 1 in 1 from 0", 7);
        orderFault("bottle 1 from 0 times 0", 22);
        orderFault("bottle 1 from 0 times 21", 22);
        orderFault("bottle 1 from 0 times 020", -1);
        orderFault("pass times year", 11);
        orderFault("pass times 1", -1);
        orderFault("pass times 2 3", 13);
        orderFault("pass if 1=1 times 2", 12);
        orderFault("pass 1", 5);
        orderFault("pour full 7 in 0", -1);
        orderFault("pour full 8 in 0", 10);
        orderFault("pour full in 0", 10);
        orderFault("pour year 1 in 0", 10);
        orderFault("pour cask in 0", 5);
        orderFault("pour full [1] in 0", 10);
    }

    private static String repeat(String text, int times) {
        return text.repeat(times);
    }

    private static void p10LawLimits() {
        lawFault(repeat("bars;", 11) + "bars", -1);
        lawFault(repeat("bars;", 12) + "bars", 60);
        lawFault(repeat("bars;", 12), 60);
        lawFault(repeat("bars;", 12) + "  (", 62);
        lawFault("loses " + repeat("1+", 49) + "1", -1);
        lawFault("loses " + repeat("1+", 50) + "1", 106);
        lawFault("loses " + repeat("1+", 24) + "1;loses " + repeat("1+", 24) + "mean", -1);
        lawFault("loses " + repeat("1+", 24) + "1;loses " + repeat("1+", 24) + "1 if mean=1", 115);
        lawFault("loses " + repeat("[", 8) + "1" + repeat("]", 8), -1);
        lawFault("loses " + repeat("[", 9) + "1" + repeat("]", 9), 14);
        lawFault("loses " + repeat("[", 8) + "1" + repeat("]", 8) + "+" + repeat("[", 8) + "1" + repeat("]", 8), -1);
        lawFault("bars if " + repeat("(", 4) + repeat("[", 4) + "1" + repeat("]", 4) + "=1" + repeat(")", 4), -1);
        lawFault("bars if " + repeat("(", 4) + repeat("[", 5) + "1" + repeat("]", 5) + "=1" + repeat(")", 4), 16);
        lawFault("bars if " + repeat("(", 9) + "1=1" + repeat(")", 9), 16);
        lawFault("bars if " + repeat("not ", 96) + "1=1", -1);
        // The casks that are named and TIMES are no PARTS.
        orderFault("pour " + repeat("full 0+", 48) + "1 in 1 times 2", -1);
        orderFault("pour " + repeat("full 0+", 48) + "1 in 1+full 0", 348);
        orderFault(repeat("pass;", 12) + "pass", 60);
        DUE.isTrue("400 bytes", ("bars if " + repeat("not ", 97) + "1=1 ").length() == 400);
        lawFault("bars if " + repeat("not ", 97) + "1=1 ", -1);
    }

    /** What cask 1 of tier 3, size 20, with 7.5 measures of MEAN 2.2, loses in year 4 with mood 6. */
    private static void tells(String law, int loses) {
        SoleraCellar x = cellar(0, 5, 3, 20, 2, 9);
        x.pour(1, 2);
        x.pass();
        x.pour(1, 6);
        Due.law(x, "loses 40");
        x.force(0);
        x.pass();
        x.force(-1);
        x.pass();
        x.pass();
        x.terms(2, 6);
        DUE.is("law '" + law + "'", Due.law(x, law), 1);
        x.force(1);
        DUE.is("loses by '" + law + "'", x.of(1, 5), loses);
    }

    private static void p10LawMeanings() {
        tells("loses cask", 1);
        tells("loses tier", 3);
        tells("loses size", 20);
        tells("loses full", 7);
        tells("loses mean", 3);
        tells("loses year", 4);
        tells("loses mood", 6);
        tells("loses 99", 99);
        tells("loses 100", 99);
        tells("loses 0-1", 0);
        tells("yields 5", 0);
        tells("loses 5;loses 6", 6);
        tells("loses 5;loses 6 if 1=2", 5);
        tells("loses 5 if 1=2", 0);
        tells("loses 5;loses 1/0", 5);
        tells("loses 5;loses 6 if 1/0=1", 5);
        tells("loses 2+3*4", 14);
        tells("loses [2+3]*4", 20);
        tells("loses 20-3-4", 13);
        tells("loses 40/3/2", 6);
        tells("loses 17%7*2", 6);
        tells("loses 50+[0-7]/2", 47);
        tells("loses 50+[0-7]%4", 47);
        tells("loses 50+7%[0-4]", 53);
        tells("loses 5 if 1<2 and 2<3 or 1/0=1", 5);
        tells("loses 5 if not 1=2 and 1=1", 5);
        tells("loses 5 if not (1=2 or 1=1)", 0);
        tells("loses 5 if not not 1=1", 5);
        tells("loses 5 if not not not 1=1", 0);
        tells("loses 5 if 1=1 or 1=1 and 1=2", 5);
        tells("loses 5 if (1=1 or 1=1) and 1=2", 0);
        tells("loses 5 if 1>2 or 2>1", 5);
        tells("loses 5 if 1<1 or 1>1", 0);
        SoleraCellar x = cellar(0, 9, 1, 9);
        Due.law(x, "yields 1000;bars if cask=1;loses mean+2");
        x.force(0);
        DUE.is("yields 1000 is 999", x.of(0, 6), 999);
        DUE.is("barred", x.of(1, 7), 1);
        DUE.is("not barred", x.of(0, 7), 0);
        DUE.is("mean of an empty one is -1", x.of(0, 5), 1);
        Due.law(x, "yields 0-5;bars if 1=2;bars if 1=1;bars if 1=2");
        x.force(1);
        DUE.is("yields below 0 is 0", x.of(0, 6), 0);
        DUE.is("barred by one of three", x.of(0, 7), 1);
    }

    private static void p10BrokenSums() {
        tells("loses 7 if 1000*1000*1000=1000*1000*1000", 7);
        tells("loses 7 if 1000*1000*1000+1>0", 0);
        tells("loses 7 if 0-1000*1000*1000<0", 7);
        tells("loses 7 if 0-1000*1000*1000-1<0", 0);
        tells("loses 7 if not 1000*1000*1000+1>0", 0);
        tells("loses 1000*1000*1000*1000/1000/1000/1000/1000+7", 0);
        tells("loses 1000*1000*1000+1-1000*1000*1000", 0);
        tells("loses 7 if 1%0=0", 0);
        tells("loses 7 if 1=1 or 1/0=1", 7);
        tells("loses 7 if 1/0=1 or 1=1", 0);
        tells("loses 7 if 1=2 or 1/0=1", 0);
        tells("loses 7 if 1=2 and 1/0=1 or 1=1", 7);
        tells("loses 7 if 1=1 and 1/0=1 or 1=1", 0);
        tells("loses 7 if not (1=2 and 1/0=1)", 7);
        tells("loses 7 if (1=1 or 1/0=1) and 1=1", 7);
        tells("loses 7 if 1=1 or 1/0=1 or 1/0=1", 7);
        tells("loses 7 if 1=2 or 1=1 or 1/0=1", 7);
        tells("loses 7 if 1=1 and 1=2 and 1/0=1 or 1=1", 7);
    }

    private static void p11Plan() {
        SoleraCellar x = cellar(0, 9);
        x.pour(0, 1);
        for (int i = 0; i < 4; i++) {
            DUE.is("plan " + i, Due.plan(x, "pass"), i);
            DUE.is("the tape is empty then", x.count(6), 0);
        }
        Due.put(x, "pour");
        DUE.is("a fifth", x.plan(), -5);
        DUE.is("the tape is empty then, too", x.count(6), 0);
        DUE.is("it was not read", x.fault(), -1);
        DUE.is("plans", x.count(4), 4);
        DUE.is("it leaves what can be undone", x.count(5), 1);
        DUE.is("nothing is run by that", x.count(13), 0);
        DUE.is("blanks alone", Due.plan(new SoleraCellar(), "  "), -6);
    }

    private static void p12Orders() {
        SoleraCellar x = cellar(0, 9, 1, 9);
        DUE.is("orders", Due.orders(x, "pour 6 in 1;pass times 2;rack 2 from 1 in 0 times 2;bottle 3 from 0"), 6);
        DUE.is("BOTTLED", x.count(1), 3);
        DUE.is("YEAR", x.count(13), 2);
        DUE.is("left in 0", x.of(0, 2), 1000);
        DUE.is("all can be undone", x.count(5), 6);
        DUE.is("none is asked for", Due.orders(x, "pass if 1=2;pour 1 in 7 if 1/0=1"), 0);
        DUE.is("the third time can't be", Due.orders(x, "pass;pour 1 in 0;rack 1 from 1 in 0 times 3"), -3);
        DUE.is("all is as it was: YEAR", x.count(13), 2);
        DUE.is("all is as it was: cask 0", x.of(0, 2), 1000);
        DUE.is("all is as it was: what can be undone", x.count(5), 6);
        DUE.is("the latest that can be undone", x.undo(), 2);
        DUE.is("what was in 0 then", x.of(0, 2), 4000);
        DUE.is("no such cask", Due.orders(x, "pour 1 in 2"), -3);
        DUE.is("a cask below 0", Due.orders(x, "pour 1 in 0-1"), -3);
        DUE.is("0 measures", Due.orders(x, "pour 0 in 0"), -3);
        DUE.is("a BROKEN sum", Due.orders(x, "pour 1 in 1/0"), -3);
        DUE.is("another one", Due.orders(x, "rack 1 from 1 in 0/0"), -3);
        DUE.is("calls REFUSED by -1 and -2 are none of these", x.count(7) + x.count(8), 0);
        DUE.is("calls REFUSED by -3", x.count(9), 6);
        DUE.is("a text that can't be", Due.orders(x, "pour"), -6);
        DUE.is("the tape is empty then", x.count(6), 0);
        x.terms(0, 998);
        DUE.is("pass to 999 and beyond", Due.orders(x, "pass times 2"), -3);
        DUE.is("YEAR stays", x.count(13), 998);
        DUE.is("pass to 999", Due.orders(x, "pass times 2 if year<999"), 1);
        DUE.is("YEAR goes on", x.count(13), 999);
        SoleraCellar y = cellar(0, 99);
        DUE.is("20 orders", Due.orders(y, "pour 1 in 0 times 20"), 20);
        DUE.is("16 are kept", y.count(5), 16);
        for (int i = 0; i < 16; i++) {
            y.undo();
        }
        DUE.is("4 measures stay", y.of(0, 2), 4000);
    }

    private static void p12OrderWords() {
        SoleraCellar x = cellar(0, 9, 1, 20);
        x.terms(0, 7);
        DUE.is("year", Due.orders(x, "pour 1 in 0 if year=7;pass;pour 1 in 0 if year=8"), 3);
        DUE.is("done", Due.orders(x, "pour 1 in 1 times 9 if done<4;pass if done=4;pass if done=4"), 5);
        DUE.is("full", x.of(1, 2), 4000);
        DUE.is("full, room, mean", Due.orders(x, "pass if full 1=4 and room 1=16 and mean 1=1"), 1);
        DUE.is("of an empty cask and of none",
            Due.orders(cellar(0, 3), "pass if full 0=0 and room 0=3 and mean 0=0-1 and full 1+room 7+mean 3=0-3"), 1);
        DUE.is("latest, bottled", Due.orders(x,
            "pass if latest=0-1 and bottled=0;bottle 1 from 0;pass if latest=7*500 and bottled=1;pour 1 in 0;pass if latest=7*500"), 5);
        DUE.is("latest is 0 of new wine", Due.orders(cellar(0, 9), "pour 2 in 0;bottle 1 from 0;pass if latest=0"), 3);
        DUE.is("latest is of this text", Due.orders(x, "pass if latest=0-1 and bottled=1"), 1);
        DUE.is("the sums see what was run before", Due.orders(x, "pour room 0 in 0;pour room 1-full 0 in 1;pass if room 1=9"), 3);
    }

    private static void p13Fault() {
        SoleraCellar x = cellar(0, 9);
        Due.law(x, "loses");
        DUE.is("fault", x.fault(), 5);
        Due.orders(x, "pour 9 in 9");
        DUE.is("read without a fault, REFUSED by -3", x.fault(), -1);
        Due.plan(x, "pass;");
        DUE.is("fault of plan()", x.fault(), 5);
        for (int i = 0; i < 6; i++) {
            Due.law(x, "bars");
        }
        DUE.is("fault gone", x.fault(), -1);
        Due.orders(x, "pass pass");
        Due.law(x, "bars");
        DUE.is("no text was read by the seventh", x.fault(), 5);
    }

    private static void p14Stopped() {
        SoleraCellar x = cellar(0, 9);
        Due.orders(x, "pass;pass;pour 10 in 0;pass");
        DUE.is("stopped", x.stopped(), 2);
        Due.plan(x, "pass pass");
        DUE.is("a plan leaves it", x.stopped(), 2);
        Due.orders(x, "pass pass");
        DUE.is("REFUSED by -6", x.stopped(), -1);
        Due.orders(x, "pour 10 in 0");
        DUE.is("stopped at 0", x.stopped(), 0);
        Due.orders(x, "pass");
        DUE.is("done", x.stopped(), -1);
    }

    private static void p15Force() {
        SoleraCellar x = cellar(0, 9);
        DUE.is("none there is", x.force(0), -2);
        DUE.is("NONE", x.force(-1), -1);
        DUE.is("that was no refusal", x.status(), 0);
        Due.law(x, "loses 1");
        Due.law(x, "loses 2");
        x.pour(0, 1);
        DUE.is("force(1)", x.force(1), -1);
        DUE.is("loses", x.of(0, 5), 2);
        DUE.is("force(0)", x.force(0), 1);
        DUE.is("force(2)", x.force(2), -2);
        DUE.is("force(-2)", x.force(-2), -2);
        DUE.is("in FORCE", x.count(12), 0);
        DUE.is("force(-1)", x.force(-1), 0);
        DUE.is("it leaves what can be undone", x.count(5), 1);
        x.force(1);
        x.undo();
        DUE.is("it is not undone", x.count(12), 1);
    }

    private static void p16Pour() {
        SoleraCellar x = cellar(0, 9, 4, 999);
        DUE.is("pour", x.pour(0, 4), 4);
        DUE.is("pour more", x.pour(0, 5), 9);
        DUE.is("pour too many", x.pour(0, 1), -3);
        DUE.is("pour 999", x.pour(1, 999), 999);
        DUE.is("pour 0", x.pour(1, 0), -1);
        DUE.is("pour 1000", x.pour(1, 1000), -1);
        DUE.is("pour in none", x.pour(2, 1), -2);
        DUE.is("pour in one below 0", x.pour(-1, 1), -2);
        SoleraCellar y = cellar(0, 9);
        Due.law(y, "loses 10;bars");
        y.force(0);
        y.pour(0, 9);
        y.pass();
        DUE.is("barred ones are poured into, too; 90 drops are no room", y.pour(0, 1), -3);
        y.bottle(0, 1);
        y.force(-1);
        y.bottle(0, 1);
        DUE.is("7910 drops and a measure, cut", y.pour(0, 1), 8);
    }

    private static void p17Rack() {
        SoleraCellar x = cellar(0, 5, 1, 9, 2, 9, 1, 3);
        x.pour(2, 9);
        x.pass();
        x.pour(1, 4);
        DUE.is("rack", x.rack(2, 1, 4), 500);
        DUE.is("what is left", x.of(2, 2), 5000);
        DUE.is("the mean there stays", x.of(2, 3), 1000);
        DUE.is("two tiers down", x.rack(2, 0, 1), -3);
        DUE.is("up", x.rack(1, 2, 1), -3);
        DUE.is("in one of the same tier", x.rack(1, 3, 1), -3);
        DUE.is("in itself", x.rack(1, 1, 1), -3);
        DUE.is("no room", x.rack(2, 3, 4), -3);
        DUE.is("just room", x.rack(2, 3, 3), 1000);
        DUE.is("too many", x.rack(2, 1, 3), -3);
        DUE.is("all there is, but no room", x.rack(2, 1, 2), -3);
        x.rack(1, 0, 1);
        x.rack(1, 0, 1);
        DUE.is("all there is", x.rack(2, 1, 2) > 0 ? x.of(2, 2) : -9, 0);
        DUE.is("n 0", x.rack(1, 0, 0), -1);
        DUE.is("n 1000", x.rack(1, 0, 1000), -1);
        DUE.is("from none", x.rack(4, 0, 1), -2);
        DUE.is("into none", x.rack(1, -1, 1), -2);
        SoleraCellar y = cellar(0, 9, 1, 9);
        y.pour(1, 9);
        Due.law(y, "yields 3 if tier=1;yields 0 if tier=0");
        Due.law(y, "bars if cask=0");
        Due.law(y, "bars if cask=1");
        y.force(0);
        DUE.is("it YIELDS 3", y.rack(1, 0, 4), -3);
        DUE.is("what the other YIELDS does not matter", y.rack(1, 0, 3), 0);
        y.force(1);
        DUE.is("the lower is BARRED", y.rack(1, 0, 1), -3);
        y.force(2);
        DUE.is("the upper is BARRED", y.rack(1, 0, 1), -3);
    }

    private static void p17TakingByAges() {
        SoleraCellar x = cellar(0, 50, 1, 50);
        x.pour(1, 1);
        x.pass();
        x.pour(1, 1);
        x.pass();
        x.pour(1, 1);
        // 1000 of each of the ages 0, 1, 2: 333 of each, and the drop that is missing of age 2.
        x.rack(1, 0, 1);
        DUE.is("age 2", x.of(0, 10), 334);
        DUE.is("age 1", x.of(0, 9), 333);
        DUE.is("age 0", x.of(0, 8), 333);
        // 667, 667, 666 of 2000: 333 of each, and the drop that is missing of age 2, where 333 are left.
        x.rack(1, 0, 1);
        DUE.is("age 2 again", x.of(0, 10), 668);
        DUE.is("age 1 again", x.of(0, 9), 666);
        DUE.is("age 0 again", x.of(0, 8), 666);
        DUE.is("left of age 2", x.of(1, 10), 332);
        SoleraCellar y = cellar(0, 9, 1, 9);
        y.pour(1, 1);
        for (int i = 0; i < 4; i++) {
            y.pass();
            y.pour(1, i == 3 ? 3 : 1);
        }
        // 1000 each of 4, 3, 2, 1, and 3000 of 0: 142 four times, 428, so 4 are missing: of 4, 3, 2, 1.
        DUE.is("bottled mean is of what is taken", y.rack(1, 0, 1), 143 * (4 + 3 + 2 + 1));
        DUE.is("of age 0 none more", y.of(0, 8), 428);
        DUE.is("of age 1 one more", y.of(0, 9), 143);
    }

    private static void p18Bottle() {
        SoleraCellar x = cellar(0, 9, 1, 9);
        x.pour(0, 2);
        x.pour(1, 2);
        x.pass();
        x.pour(0, 1);
        DUE.is("bottle: 667 of age 1", x.bottle(0, 1), 667);
        DUE.is("BOTTLED", x.count(1), 1);
        DUE.is("of tier 1", x.bottle(1, 1), -3);
        DUE.is("too many", x.bottle(0, 3), -3);
        DUE.is("all", x.bottle(0, 2), 666);
        DUE.is("BOTTLED", x.count(1), 3);
        DUE.is("empty then", x.of(0, 2), 0);
        DUE.is("n 0", x.bottle(0, 0), -1);
        DUE.is("n 1000", x.bottle(0, 1000), -1);
        DUE.is("of none", x.bottle(2, 1), -2);
        Due.law(x, "yields 2;bars if full>5");
        x.force(0);
        x.pour(0, 6);
        DUE.is("BARRED", x.bottle(0, 1), -3);
        x.force(-1);
        x.bottle(0, 1);
        x.force(0);
        DUE.is("it YIELDS 2", x.bottle(0, 3), -3);
        DUE.is("bottle 2", x.bottle(0, 2), 0);
        SoleraCellar y = eight();
        y.pour(0, 999);
        DUE.is("bottle 999", y.bottle(0, 999), 0);
    }

    private static SoleraCellar eight() {
        return cellar(0, 999, 0, 999, 0, 999, 0, 999, 0, 999, 0, 999, 0, 999, 0, 999);
    }

    private static void p18BottledIsCut() {
        SoleraCellar x = eight();
        String round = "pour 999 in done%8 times 8;bottle 999 from done%8 times 8";
        String six = round + (";" + round).repeat(5);
        Due.plan(x, six);
        DUE.is("on paper not cut", x.yields(0, 60), 60 * 47952);
        for (int i = 0; i < 20; i++) {
            DUE.is("a round of orders", Due.orders(x, six), 96);
        }
        DUE.is("BOTTLED", x.count(1), 20 * 47952);
        DUE.is("cut off on paper", x.yields(0, 2), 2 * 47952);
        DUE.is("one round more", Due.orders(x, six), 96);
        DUE.is("999,999 at most", x.count(1), 999_999);
        x.pour(0, 5);
        x.bottle(0, 5);
        DUE.is("still", x.count(1), 999_999);
        x.image(0);
        x.terms(0, 0);
        DUE.is("harvests tell what is cut off, too", x.harvests(3, 60), eight().harvests(3, 60));
        DUE.isTrue("some are bottled in them", x.harvests(3, 60) > 0);
        Due.plan(x, "pour 1 in 0;bottle 1 from 0 if bottled=999*1000+999");
        DUE.is("the word bottled is cut on paper", x.yields(1, 3), 3);
    }

    private static void p19Pass() {
        SoleraCellar x = cellar(0, 9, 1, 9, 2, 9);
        DUE.is("a year of nothing", x.pass(), 0);
        x.pour(0, 9);
        x.pour(1, 1);
        Due.law(x, "loses 7 if cask=0;loses 99 if full=1 and year=1");
        x.force(0);
        DUE.is("lost", x.pass(), 63 + 99);
        DUE.is("left in 0", x.of(0, 9), 8937);
        DUE.is("left in 1", x.of(1, 9), 901);
        DUE.is("YEAR", x.count(13), 2);
        x.pour(0, 0);
        DUE.is("lost of each age, cut", x.pass(), 62);
        SoleraCellar y = cellar(0, 9);
        y.terms(0, 998);
        DUE.is("to 999", y.pass(), 0);
        DUE.is("beyond", y.pass(), -3);
        DUE.is("YEAR stays", y.count(13), 999);
        SoleraCellar z = cellar(0, 9);
        Due.law(z, "loses 1");
        z.force(0);
        z.pour(0, 1);
        z.pass();
        z.pour(0, 1);
        // 999 of age 1 lose none, 1000 of age 0 lose one.
        DUE.is("each age by itself", z.pass(), 1);
        for (int i = 0; i < 17; i++) {
            z.pass();
        }
        DUE.is("19 and 18", z.of(0, 27) + z.of(0, 26), 1998);
        z.pass();
        DUE.is("19 or more", z.of(0, 27), 1998);
        DUE.is("they lose together", z.pass(), 1);
    }

    private static void p20Undo() {
        SoleraCellar x = cellar(0, 99, 1, 99);
        x.pour(1, 9);
        x.pass();
        x.rack(1, 0, 4);
        x.bottle(0, 3);
        DUE.is("undo bottle", x.undo(), 2);
        DUE.is("BOTTLED", x.count(1), 0);
        DUE.is("in 0", x.of(0, 2), 4000);
        DUE.is("undo rack", x.undo(), 1);
        DUE.is("in 1", x.of(1, 9), 9000);
        DUE.is("undo pass", x.undo(), 3);
        DUE.is("YEAR", x.count(13), 0);
        DUE.is("age 0", x.of(1, 8), 9000);
        DUE.is("undo pour", x.undo(), 0);
        DUE.is("undo nothing", x.undo(), -3);
        for (int i = 0; i < 20; i++) {
            x.pour(0, 1);
            x.pour(0, 0);
            x.pour(0, 999);
        }
        DUE.is("16 are kept", x.count(5), 16);
        for (int i = 0; i < 16; i++) {
            DUE.is("undo", x.undo(), 0);
        }
        DUE.is("no more", x.undo(), -3);
        DUE.is("in 0", x.of(0, 2), 4000);
        x.pass();
        x.cask(9, 9);
        x.terms(9, 9);
        x.back(0);
        x.row();
        DUE.is("what is REFUSED leaves it", x.count(5), 1);
        Due.law(x, "bars");
        Due.plan(x, "pass");
        x.force(0);
        x.tasted(0, 0);
        x.forget();
        x.image(0);
        x.harvests(1, 1);
        x.byPlan(0, 9, 0, 0);
        DUE.is("what else leaves it", x.count(5), 1);
        x.cask(0, 1);
        DUE.is("cask() does not", x.undo(), -3);
        x.pass();
        x.terms(1, 1);
        DUE.is("terms() does not", x.undo(), -3);
        x.pass();
        Due.row(x, 0, 1, 1);
        DUE.is("row() does not", x.undo(), -3);
        x.pass();
        x.back(0);
        DUE.is("back() does not", x.undo(), -3);
    }

    private static void p21ByPlan() {
        SoleraCellar x = cellar(0, 9, 1, 9);
        x.terms(0, 990);
        DUE.is("no plan", x.byPlan(0, 0, 0, 0), -1);
        Due.plan(x, "pass times 9;pour 2 in 1;rack 1 from 1 in 0 if year>990;pour 1 in 0 if year>1000+40");
        DUE.is("as it is", x.byPlan(0, 0, 1, 0), 0);
        DUE.is("MEAN of an empty one", x.byPlan(0, 0, 1, 1), -1);
        DUE.is("LABEL of an empty one", x.byPlan(0, 0, 1, 2), -1);
        DUE.is("1 year", x.byPlan(0, 1, 1, 0), 2000);
        DUE.is("its MEAN", x.byPlan(0, 1, 1, 1), 1000);
        DUE.is("its LABEL", x.byPlan(0, 1, 1, 2), 1);
        // In the second year 2 of age 1, 2 of age 0, 1 racked: 500 and 500 go.
        DUE.is("2 years, cask 0", x.byPlan(0, 2, 0, 1), 1500);
        DUE.is("its LABEL then", x.byPlan(0, 2, 0, 2), 1);
        DUE.is("2 years, cask 1", x.byPlan(0, 2, 1, 0), 3000);
        DUE.is("60 years", x.byPlan(0, 60, 0, 0), 9000);
        DUE.is("61 years", x.byPlan(0, 61, 0, 0), -1);
        DUE.is("-1 years", x.byPlan(0, -1, 0, 0), -1);
        DUE.is("what 3", x.byPlan(0, 1, 0, 3), -1);
        DUE.is("what -1", x.byPlan(0, 1, 0, -1), -1);
        DUE.is("cask 2", x.byPlan(0, 1, 2, 0), -1);
        DUE.is("plan -1", x.byPlan(-1, 1, 0, 0), -1);
        DUE.is("plan 1", x.byPlan(1, 1, 0, 0), -1);
        DUE.is("it is on paper", x.count(13), 990);
        DUE.is("it is on paper, the casks", x.of(1, 2), 0);
        SoleraCellar y = cellar(0, 99);
        y.terms(0, 999);
        Due.plan(y, "pour 1 in 0 if year>1000;pour done in 0;pour 3 in 0 if latest>0-1;bottle 1 from 0 if full 0>4");
        DUE.is("years go on beyond 999", y.byPlan(0, 4, 0, 0), 4000);
        DUE.is("latest is of this year", y.byPlan(0, 6, 0, 0), 6000);
        Due.law(y, "loses 10 if year=1000+1");
        y.force(0);
        DUE.is("the law sees them, too", y.byPlan(0, 3, 0, 0), 1980);
    }

    private static void p22OldEnough() {
        SoleraCellar x = cellar(0, 99, 0, 9);
        x.pour(0, 9);
        Due.plan(x, "pass");
        Due.plan(x, "pour 1 in 0 if full 0<99");
        DUE.is("0 at once", x.oldEnough(0, 0, 0), 0);
        DUE.is("1 thousandth", x.oldEnough(0, 0, 1), 1);
        DUE.is("19,000", x.oldEnough(0, 0, 19000), 19);
        DUE.is("19,001", x.oldEnough(0, 0, 19001), -1);
        DUE.is("-1", x.oldEnough(0, 0, -1), -1);
        DUE.is("of an empty one never", x.oldEnough(0, 1, 0), -1);
        DUE.is("never in 60", x.oldEnough(1, 0, 19000), -1);
        DUE.is("no plan", x.oldEnough(2, 0, 0), -1);
        DUE.is("no cask", x.oldEnough(0, 2, 0), -1);
        SoleraCellar y = cellar(0, 9);
        Due.plan(y, "pour 1 in 0 if year=41");
        DUE.is("at 60 still", y.oldEnough(0, 0, 18501), 60);
        y.terms(0, 1);
        DUE.is("at 59 then", y.oldEnough(0, 0, 18501), 59);
    }

    private static void p23Settled() {
        SoleraCellar x = cellar(0, 99, 0, 9, 0, 9);
        x.pour(0, 9);
        x.pour(2, 1);
        x.pass();
        Due.plan(x, "pass");
        Due.plan(x, "pour 1 in 2;bottle 1 from 2;pour 1 in 1 if year=42;bottle 1 from 1 if year=43");
        DUE.is("from 19 on", x.settled(0, 0), 18);
        DUE.is("an empty one never", x.settled(0, 1), -1);
        DUE.is("half and half settles at 2", x.byPlan(1, 30, 2, 1) == x.byPlan(1, 31, 2, 1) ? 1 : 0, 1);
        DUE.is("empty again is not settled", x.settled(1, 1), -1);
        DUE.is("no plan", x.settled(2, 0), -1);
        DUE.is("no cask", x.settled(0, 3), -1);
        SoleraCellar y = cellar(0, 9);
        Due.plan(y, "pour 1 in 0 if year=40");
        DUE.is("59 years on", y.settled(0, 0), 59);
        Due.plan(y, "pour 1 in 0 if year=41");
        DUE.is("60 are too many", y.settled(1, 0), -1);
    }

    private static void p24Starves() {
        SoleraCellar x = cellar(0, 9, 0, 99);
        Due.plan(x, "pass times 3");
        Due.plan(x, "pour 1 in 0 times 4");
        Due.plan(x, "pour 1 in 9 if 1/0=1;pour 1 in 1 if full 0=1");
        Due.plan(x, "pour 1/[year-59] in 9 if year=59");
        DUE.is("pass is none", x.starves(0), -1);
        DUE.is("the second time of the third year", x.starves(1), 2);
        DUE.is("one that is not run is none", x.starves(2), -1);
        DUE.is("a BROKEN sum is one", x.starves(3), 59);
        DUE.is("no plan", x.starves(4), -1);
        DUE.is("no plan -1", x.starves(-1), -1);
        x.terms(0, 60);
        DUE.is("not in 60", x.starves(3), -1);
        SoleraCellar y = cellar(0, 9);
        Due.plan(y, "pour 1 in 9 if year=60");
        DUE.is("60 years on is too late", y.starves(0), -1);
    }

    private static void p25Yields() {
        SoleraCellar x = cellar(0, 9);
        Due.plan(x, "pour 2 in 0;bottle 1 from 0");
        x.pour(0, 3);
        x.bottle(0, 2);
        DUE.is("0 years", x.yields(0, 0), 0);
        DUE.is("those of before not", x.yields(0, 3), 3);
        DUE.is("60", x.yields(0, 60), 60);
        DUE.is("61", x.yields(0, 61), -1);
        DUE.is("-1", x.yields(0, -1), -1);
        DUE.is("no plan", x.yields(1, 1), -1);
        DUE.is("on paper", x.count(1), 2);
    }

    private static void p26Best() {
        SoleraCellar x = cellar(0, 99);
        DUE.is("no plans", x.best(1, 0), -1);
        x.pour(0, 50);
        x.pass();
        Due.plan(x, "bottle 1 from 0");
        Due.plan(x, "bottle 2 from 0");
        Due.plan(x, "bottle 1 from 0 times 2");
        Due.plan(x, "bottle 9 from 0 if year>2");
        DUE.is("the lowest of the most", x.best(2, 1000), 1);
        DUE.is("of all that was bottled", x.best(2, 1001), 3);
        DUE.is("3 years", x.best(4, 0), 3);
        DUE.is("at 0 years all are alike", x.best(0, 19000), 0);
        DUE.is("by the worst of each", x.best(3, 3000), 3);
        DUE.is("too old", x.best(3, 3001), -1);
        DUE.is("n 61", x.best(61, 0), -1);
        DUE.is("n -1", x.best(-1, 0), -1);
        DUE.is("m 19,001", x.best(1, 19001), -1);
        DUE.is("m -1", x.best(1, -1), -1);
        SoleraCellar y = cellar(0, 99);
        y.pour(0, 50);
        Due.plan(y, "bottle 5 from 0 if year<1;bottle 5 from 0 if year>5");
        DUE.is("the mean of the first year counts, too", y.best(9, 1), -1);
    }

    private static void p27And28Tasted() {
        SoleraCellar x = cellar(0, 9);
        x.pass();
        DUE.is("fact 3", x.tasted(3, 0), -1);
        DUE.is("fact -1", x.tasted(-1, 0), -1);
        DUE.is("n -1", x.tasted(0, -1), -1);
        DUE.is("n 1000", x.tasted(0, 1000), -1);
        for (int i = 1; i <= 6; i++) {
            DUE.is("tasted", x.tasted(i % 3, i == 1 ? 999 : 0), i);
        }
        DUE.is("a seventh", x.tasted(0, 0), -5);
        DUE.is("a seventh that can't be", x.tasted(3, 0), -1);
        DUE.is("counted", x.count(2), 6);
        DUE.is("it leaves what can be undone", x.undo(), 3);
        DUE.is("forget", x.forget(), 6);
        DUE.is("forget again", x.forget(), 0);
        DUE.is("forget leaves the status", x.status(), 0);
        DUE.is("tasted again", x.tasted(0, 0), 1);
    }

    private static void p29And30CanBe() {
        SoleraCellar x = cellar(0, 9, 0, 9, 1, 9, 1, 9);
        x.pour(1, 2);
        x.pass();
        x.pour(1, 1);
        x.pour(2, 3);
        x.pass();
        // Empty; 3 measures, MEAN 1666, LABEL 1; 3 measures, MEAN 1000, LABEL 1; empty.
        DUE.is("all", x.canBe(), 15);
        DUE.is("taste: two by two by each", x.taste(0), 0);
        DUE.is("two are left at most", x.taste(1), 2);
        x.tasted(0, 1);
        DUE.is("MEAN 1", x.canBe(), 6);
        DUE.is("nothing tells them apart", x.taste(1), 2);
        x.pass();
        DUE.is("as it is now", x.canBe(), 0);
        DUE.is("none", x.taste(0), -1);
        x.forget();
        x.tasted(0, 999);
        DUE.is("NONE is 999", x.canBe(), 9);
        x.tasted(1, 0);
        x.tasted(2, 999);
        DUE.is("0 measures, no LABEL", x.canBe(), 9);
        x.tasted(1, 3);
        DUE.is("both can't be", x.canBe(), 0);
        x.forget();
        x.terms(3, 50);
        x.tasted(2, 3);
        DUE.is("LABEL by PART", x.canBe(), 2);
        x.forget();
        DUE.is("LABEL tells more than MEAN", x.taste(0), 0);
        x.pour(0, 2);
        // MEAN 0, 2, 2, none; MEASURES 2, 3, 3, 0; LABEL 0, 3, 2, none.
        DUE.is("the LABEL", x.taste(0), 2);
        DUE.is("one is left", x.taste(1), 1);
        DUE.is("taste(2)", x.taste(2), -1);
        DUE.is("taste(-1)", x.taste(-1), -1);
    }

    private static void p31Few() {
        SoleraCellar x = new SoleraCellar();
        DUE.is("few(1, 0)", x.few(1, 0), 1_000_000_000_000L);
        DUE.is("few(1, 3)", x.few(1, 3), 729_000_000_000L);
        DUE.is("few(2, 3)", x.few(2, 3), 972_000_000_000L);
        DUE.is("few(4, 3)", x.few(4, 3), 1_000_000_000_000L);
        DUE.is("few(20, 3)", x.few(20, 3), 1_000_000_000_000L);
        x.terms(1, 0);
        DUE.is("none corked", x.few(1, 99), 1_000_000_000_000L);
        x.terms(1, 10);
        DUE.is("all corked", x.few(19, 18), 1_000_000_000_000L);
        DUE.is("all corked, fewer", x.few(18, 18), 0);
        x.terms(1, 3);
        // 0.7 to the 13th, each step cut: 96,889,010,407 is what is left, with nothing to cut by then.
        DUE.is("0.7 to the 12th", x.few(1, 12), 13_841_287_201L);
        DUE.is("0.7 to the 13th, cut", x.few(1, 13), 9_688_901_040L);
        DUE.is("0.7 to the 14th, cut twice", x.few(1, 14), 6_782_230_728L);
        DUE.is("few(0, 1)", x.few(0, 1), -1);
        DUE.is("few(21, 1)", x.few(21, 1), -1);
        DUE.is("few(1, -1)", x.few(1, -1), -1);
        DUE.is("few(1, 100)", x.few(1, 100), -1);
    }

    private static void p32Compare() {
        SoleraCellar x = cellar(0, 9, 0, 9);
        x.pour(0, 9);
        x.pass();
        Due.law(x, "loses 10");
        Due.law(x, "loses 3 if year=1");
        x.force(0);
        DUE.is("by the other", x.compare(1, 0), 27);
        DUE.is("by that in FORCE", x.compare(0, 0), 90);
        DUE.is("by none", x.compare(-1, 0), 0);
        DUE.is("of an empty one", x.compare(0, 1), 0);
        DUE.is("no law", x.compare(2, 0), -1);
        DUE.is("no law -2", x.compare(-2, 0), -1);
        DUE.is("no cask", x.compare(0, 2), -1);
        DUE.is("it stays in FORCE", x.of(0, 5), 10);
        DUE.is("nothing is lost by it", x.of(0, 2), 9000);
        x.bottle(0, 1);
        x.pour(0, 1);
        Due.law(x, "loses 99");
        DUE.is("of each age", x.compare(2, 0), 792 + 99);
    }

    private static void p33And34Harvests() {
        SoleraCellar x = cellar(0, 9, 1, 9, 2, 9);
        DUE.is("seed -1", x.harvests(-1, 1), -1);
        DUE.is("seed 1,000,001", x.harvests(1_000_001, 1), -1);
        DUE.is("n 0", x.harvests(0, 0), -1);
        DUE.is("n 61", x.harvests(0, 61), -1);
        DUE.is("no harvests yet", x.drawn(0, 0), -1);
        // 5: 17860, 711868, 200394, 46264: cask 1, cask 1, 1 measure, poured.
        DUE.is("one harvest", x.harvests(5, 1), 0);
        DUE.is("drawn(1, 0)", x.drawn(1, 0), 1000);
        DUE.is("drawn(1, 1)", x.drawn(1, 1), 1000);
        DUE.is("drawn(0, 1)", x.drawn(0, 1), -1);
        DUE.is("drawn(3, 0)", x.drawn(3, 0), -1);
        DUE.is("drawn(-1, 0)", x.drawn(-1, 0), -1);
        DUE.is("drawn(1, 2)", x.drawn(1, 2), -1);
        DUE.is("on paper", x.of(1, 2) + x.count(13), 0);
        x.harvests(0, 99);
        DUE.is("a REFUSED one leaves the latest", x.drawn(1, 0), 1000);
        x.image(0);
        SoleraCellar y = cellar(0, 9);
        y.image(0);
        y.cask(1, 9);
        y.cask(2, 9);
        y.harvests(5, 1);
        y.back(0);
        DUE.is("of casks there were", y.drawn(1, 0), 1000);
        DUE.is("none there is now", y.of(1, 2), -1);
        y.terms(0, 999);
        DUE.is("not at 999", y.harvests(5, 60), 0);
        DUE.is("as it is", y.drawn(0, 0), 0);
        DUE.is("of the latest alone", y.drawn(1, 0), -1);
        DUE.is("without casks", new SoleraCellar().harvests(5, 1), -3);
        DUE.is("with one cask", cellar(0, 9).harvests(4, 60) > 0 ? 1 : 0, 1);
        DUE.is("the most of both", x.harvests(1_000_000, 60) >= 0 ? 1 : 0, 1);
    }

    private static void p35And36Images() {
        SoleraCellar x = cellar(0, 9);
        DUE.is("image(-1)", x.image(-1), -1);
        DUE.is("image(2)", x.image(2), -1);
        DUE.is("back(-1)", x.back(-1), -1);
        DUE.is("back(2)", x.back(2), -1);
        DUE.is("back(0), not kept", x.back(0), -2);
        DUE.is("image(0)", x.image(0), 0);
        x.cask(1, 9);
        x.pour(1, 5);
        x.pour(0, 5);
        x.bottle(0, 2);
        x.terms(1, 4);
        x.terms(2, 5);
        x.terms(3, 6);
        x.pass();
        x.tasted(1, 2);
        Due.law(x, "loses 9");
        Due.plan(x, "pour 1 in 1");
        x.force(0);
        DUE.is("image(1)", x.image(1), 0);
        x.rack(1, 0, 1);
        Due.orders(x, "pour 9 in 9;");
        Due.row(x, 9);
        x.feed(0, 0, 0, 0, 0);
        DUE.is("back(0)", x.back(0), 0);
        int[] first = {1, 0, 0, 0, 0, 0, 20};
        for (int what = 0; what < 7; what++) {
            DUE.is("back at 0: count(" + what + ")", x.count(what), first[what]);
        }
        int[] terms = {-1, 0, 1, 0, 85};
        for (int what = 12; what < 17; what++) {
            DUE.is("back at 0: count(" + what + ")", x.count(what), terms[what - 12]);
        }
        DUE.is("no plan there", x.yields(0, 1), -1);
        DUE.is("FAULT is not kept", x.fault(), 12);
        DUE.is("LEAKS are not kept", x.leaks(), 1);
        x.end(0);
        DUE.is("another law at the same place", Due.law(x, "loses 1"), 0);
        DUE.is("back(1)", x.back(1), 0);
        int[] second = {2, 2, 1, 1, 1, 0};
        for (int what = 0; what < 6; what++) {
            DUE.is("back at 1: count(" + what + ")", x.count(what), second[what]);
        }
        int[] later = {0, 1, 4, 5, 6};
        for (int what = 12; what < 17; what++) {
            DUE.is("back at 1: count(" + what + ")", x.count(what), later[what - 12]);
        }
        DUE.is("its casks", x.of(1, 9), 5000);
        DUE.is("its law", x.of(1, 5), 9);
        DUE.is("its plan", x.byPlan(0, 1, 1, 0), 6000 - 45 - 9);
        DUE.is("what was tasted", x.canBe(), 0);
        DUE.is("REFUSED stay counted", x.count(7), 4);
        DUE.is("and by -2", x.count(8), 1);
        x.pass();
        x.back(1);
        DUE.is("images stay", x.count(13), 1);
    }

    private static void p37Count() {
        SoleraCellar x = cellar(0, 9);
        DUE.is("count(-1)", x.count(-1), -1);
        DUE.is("count(17)", x.count(17), -1);
        DUE.is("count far off", x.count(Integer.MIN_VALUE) + x.count(Integer.MAX_VALUE), -2);
        x.pour(0, 0);
        x.pour(0, 0);
        x.pour(1, 1);
        x.pour(0, 10);
        x.undo();
        x.rack(0, 0, 1);
        x.row();
        for (int i = 0; i < 9; i++) {
            x.cask(0, 9);
        }
        DUE.is("by -1", x.count(7), 2);
        DUE.is("by -2", x.count(8), 1);
        DUE.is("by -3", x.count(9), 3);
        DUE.is("by -5", x.count(10), 2);
        DUE.is("by -6", x.count(11), 1);
        x.of(9, 9);
        x.end(9);
        x.few(0, 0);
        x.drawn(9, 9);
        x.compare(9, 9);
        x.byPlan(9, 9, 9, 9);
        DUE.is("those that answer NONE are not REFUSED", x.count(7), 2);
    }

    private static void p38Status() {
        SoleraCellar x = cellar(0, 9);
        DUE.is("cask", x.status(), 0);
        DUE.is("refused cask", x.cask(9, 9) - x.status(), 0);
        x.of(0, 0);
        x.feed(0, 0, 0, 0, 0);
        x.end(0);
        x.forget();
        x.canBe();
        x.few(1, 1);
        x.count(0);
        DUE.is("others leave it", x.status(), -1);
        x.terms(0, 0);
        DUE.is("terms", x.status(), 0);
        x.row();
        DUE.is("row", x.status(), -6);
        x.tasted(0, 0);
        DUE.is("tasted", x.status(), 0);
        x.law();
        DUE.is("law", x.status(), -6);
        x.pass();
        DUE.is("pass", x.status(), 0);
        x.plan();
        DUE.is("plan", x.status(), -6);
        x.undo();
        DUE.is("undo", x.status(), 0);
        x.orders();
        DUE.is("orders", x.status(), -6);
        x.harvests(0, 1);
        DUE.is("harvests", x.status(), 0);
        x.force(5);
        DUE.is("force", x.status(), -2);
        x.image(0);
        DUE.is("image", x.status(), 0);
        x.back(1);
        DUE.is("back", x.status(), -2);
        x.pour(0, 1);
        DUE.is("pour", x.status(), 0);
        x.rack(0, 0, 1);
        DUE.is("rack", x.status(), -3);
        x.bottle(0, 1);
        DUE.is("bottle", x.status(), 0);
        Due.orders(x, "pour 1 in 5");
        DUE.is("orders by -3 whatever it was by", x.status(), -3);
        x.force(-1);
        DUE.is("force(NONE) answers -1 and is not REFUSED", x.status(), 0);
    }

    /** Two measures in cask 0 that are 1001 drops of age 7 seven years later. */
    private static SoleraCellar withThousandAndOne() {
        SoleraCellar x = cellar(0, 9, 1, 9);
        Due.law(x, "loses 99 if year<7 and cask=0;loses 68 if year=7 and cask=0");
        x.force(0);
        x.pour(1, 1);
        x.pass();
        x.pour(0, 2);
        for (int i = 0; i < 7; i++) {
            x.pass();
        }
        DUE.is("drops", x.of(0, 15), 1001);
        return x;
    }

    private static void oneDropLeft() {
        SoleraCellar x = withThousandAndOne();
        DUE.is("bottle", x.bottle(0, 1), 7000);
        DUE.is("one drop", x.of(0, 2), 1);
        DUE.is("its MEAN", x.of(0, 3), 7000);
        DUE.is("its LABEL", x.of(0, 4), 7);
        DUE.is("OLD 7", x.old(0, 7), 1_000_000_000_000L);
        DUE.is("room for 8 more", x.pour(0, 9), -3);
        Due.law(x, "loses 5 if mean=7");
        x.force(1);
        DUE.is("a law sees its mean", x.of(0, 5), 5);
        x.tasted(0, 7);
        x.tasted(1, 0);
        x.tasted(2, 7);
        DUE.is("it is not empty", x.canBe(), 1);
    }

    private static void justShortOfALabel() {
        SoleraCellar x = withThousandAndOne();
        x.rack(1, 0, 1);
        x.terms(3, 50);
        DUE.is("1000 of age 8 are not half of 2001", x.of(0, 4), 7);
        x.terms(3, 49);
        DUE.is("but 49 of 100", x.of(0, 4), 8);
        for (int i = 0; i < 11; i++) {
            x.pass();
        }
        DUE.is("LABEL 19", x.of(0, 4), 19);
    }

    private static void refusalsInTheirOrder() {
        SoleraCellar x = cellar(0, 9);
        DUE.is("pour: -1 ahead of -2", x.pour(9, 0), -1);
        DUE.is("rack: -1 ahead of -2", x.rack(9, 9, 0), -1);
        DUE.is("rack: -2 ahead of -3", x.rack(0, 9, 9), -2);
        DUE.is("bottle: -2 ahead of -3", x.bottle(9, 9), -2);
        DUE.is("harvests: -1 ahead of -3", new SoleraCellar().harvests(-1, 1), -1);
        DUE.is("back: -1 ahead of -2", x.back(7), -1);
    }
}
