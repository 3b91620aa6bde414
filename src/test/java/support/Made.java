/** Cellars that the tests of sentences begin with. */
final class Made {
    private static final String ROUND = "pour999in done%8times8;bottle999from done%8times8";

    private Made() {
    }

    /** Empty casks, each by its TIER and SIZE. */
    static SoleraCellar cellar(int... tiersAndSizes) {
        SoleraCellar x = new SoleraCellar();
        for (int i = 0; i < tiersAndSizes.length; i += 2) {
            x.cask(tiersAndSizes[i], tiersAndSizes[i + 1]);
        }
        return x;
    }

    /** Law 0 is this one and in FORCE. */
    static SoleraCellar under(String law, int... tiersAndSizes) {
        SoleraCellar x = cellar(tiersAndSizes);
        Due.law(x, law);
        x.force(0);
        return x;
    }

    /** Plan 0 is this one. */
    static SoleraCellar planned(String plan, int... tiersAndSizes) {
        SoleraCellar x = cellar(tiersAndSizes);
        Due.plan(x, plan);
        return x;
    }

    static SoleraCellar eight(int tier, int size) {
        return cellar(tier, size, tier, size, tier, size, tier, size, tier, size, tier, size, tier, size, tier, size);
    }

    static void pass(SoleraCellar x, int years) {
        for (int i = 0; i < years; i++) {
            x.pass();
        }
    }

    /** Of all that can be seen something other than at first, and 20 bytes on the TAPE. */
    static SoleraCellar busy() {
        SoleraCellar x = new SoleraCellar();
        Due.row(x, 0, 20, 10, 9);
        x.cask(1, 20);
        x.cask(2, 20);
        x.terms(1, 2);
        x.terms(2, 3);
        Due.law(x, "loses 10");
        x.force(0);
        Due.plan(x, "pour 1 in 1;bottle 1 from 0");
        x.tasted(1, 8);
        x.harvests(5, 3);
        x.image(0);
        Due.orders(x, "pass;pour 999 in 0");
        Due.plan(x, "pass pass");
        x.pass();
        x.pour(2, 7);
        x.pass();
        x.rack(2, 1, 2);
        x.bottle(0, 1);
        x.feed(0x01020304, 0, -1, 0x20202020, 0);
        return x;
    }

    /** As busy(), with this text on the TAPE. */
    static SoleraCellar busyWith(String text) {
        SoleraCellar x = busy();
        Due.put(x, text);
        return x;
    }

    /** A cask 0 of TIER 0 and SIZE 27 with 26,001 DROPS, a cask 1 of TIER 1; no law in FORCE. */
    static SoleraCellar oneDropOver() {
        SoleraCellar x = under("loses 37 if cask=0", 0, 27, 1, 27);
        x.pour(0, 27);
        x.pass();
        x.force(-1);
        return x;
    }

    /** A cask with 999 DROPS of AGE 1, of this TIER, and an empty one below it, if there is a TIER below. */
    static SoleraCellar oneDropShort(int tier) {
        SoleraCellar x = under("loses 1", tier, 9, Math.max(0, tier - 1), 9);
        x.pour(0, 1);
        x.pass();
        x.force(-1);
        return x;
    }

    /** A text that bottles so many times 8 times 999 MEASURES, 6 at most, out of eight() casks of SIZE 999. */
    static String rounds(int many) {
        return ROUND + (";" + ROUND).repeat(many - 1);
    }

    /** Eight empty casks of SIZE 999 and TIER 0, and BOTTLED less than 999,999 by this, which is 0 .. 998. */
    static SoleraCellar bottledShortBy(int less) {
        SoleraCellar x = eight(0, 999);
        // Blanks may stand behind a text, so no end() is needed and the calls stay far below 512.
        for (int i = 0; i < 21; i++) {
            for (int[] row : Due.rows(Due.bytes(rounds(i < 20 ? 6 : 5)))) {
                x.feed(row[0], row[1], row[2], row[3], row[4]);
            }
            x.orders();
        }
        x.pour(0, 999 - less);
        x.bottle(0, 999 - less);
        return x;
    }
}
