/** The edges of ==== 3 and of promises 23 to 37, sentence by sentence: all that is asked apart, from as it is now. */
public final class AskEdgesTest extends Check {
    /** Three of HOUSE 0 (0 1 2), three of HOUSE 1 (3 4 5). */
    private static final String SIX = "sk99;g;g;g;gh1;gh1;gh1";
    private static final int MIN = Integer.MIN_VALUE;
    private static final int MAX = Integer.MAX_VALUE;
    private static final int PARTS = 1000000000;
    /** No such ones, or of one HOUSE, among SIX. */
    private static final int[][] NO_TWO = {{0, 1}, {1, 0}, {3, 4}, {5, 3}, {0, 0}, {5, 5}, {0, 6}, {6, 0}, {-1, 3}, {3, -1},
        {MIN, 3}, {3, MAX}, {6, 6}, {-1, -1}, {-1, 6}};

    public static void main(String[] args) {
        rises();
        laterBounds();
        laterSteps();
        laterAtTheEnd();
        soonestBounds();
        soonestOfSeveral();
        matchBounds();
        matchOfNobody();
        matchOfSeveral();
        matchIsMost();
        allKnowBounds();
        allKnowDays();
        allKnowAtTheEnd();
        seenBounds();
        fitsBounds();
        fitsAsTold();
        askBounds();
        askOfSeveral();
        gameBounds();
        gameNotThere();
        gameCut();
        sure();
        rests();
        oddsBounds();
        oddsOfNone();
        oddsHalf();
        oddsCut();
        oddsDays();
        oddsOfTheTwo();
        shares();
        mostBounds();
        warmestColdest();
        warmestOfDrawn();
        freestStiffestHeaviest();
        boundAndDue();
        allies();
        closes();
    }

    // ---- RISES, AFTER, SOONEST

    private static void rises() {
        says("RISES. HIDDEN: no such ones, of one HOUSE.");
        GloveHouses x = with(SIX, "y:1");
        for (int[] n : NO_TWO) due("rises(" + n[0] + ", " + n[1] + ")", x.rises(n[0], n[1]), HIDDEN);
        due("rises(0, 5)", x.rises(0, 5), 1);
        due("rises(5, 0)", x.rises(5, 0), 1);
        due("no PEACE", new GloveHouses().rises(0, 1), HIDDEN);
        due("below 0 is none of these", with(SIX, "y:0-1").rises(0, 3), -1);
    }

    private static void laterBounds() {
        says("AFTER n (0 .. 60) DAYS. NONE: no such ones, of one HOUSE, out of bounds.");
        GloveHouses x = with(SIX, "y:1");
        for (int[] n : NO_TWO) due("later(" + n[0] + ", " + n[1] + ", 1)", x.later(n[0], n[1], 1), NONE);
        for (int n = 0; n <= 60; n++) due("later(0, 3, " + n + ")", x.later(0, 3, n), n);
        for (int n : new int[] {-1, 61, MIN, MAX}) due("later(0, 3, " + n + ")", x.later(0, 3, n), NONE);
        due("no PEACE", new GloveHouses().later(0, 1, 0), NONE);
        says("WARMTH between them: 0 .. 99");
        GloveHouses top = with(SIX, "y:w=99?0-3;y:9");
        int[] steps = {9, 18, 27, 36, 45, 54, 63, 72, 81, 90, 99, 96, 99, 96};
        for (int i = 0; i < steps.length; i++) due("later(0, 3, " + (i + 1) + ")", top.later(0, 3, i + 1), steps[i]);
        GloveHouses low = with(SIX, "y:d<3?0-9;y:d=5?0-9;y:2");
        int[] lows = {0, 0, 0, 0, 2, 4, 0, 2, 4};
        for (int i = 0; i < lows.length; i++) due("later(0, 3, " + i + ")", low.later(0, 3, i), lows[i]);
    }

    private static void laterSteps() {
        says("on each of which just these two meet (a DAY behind each; COINS and who met this DAY do not matter)");
        GloveHouses x = with("sk1;g;g;gh1;gh1", "y:d+1");
        x.meets(0, 2);
        due("COINS", x.rule(1), 0);
        due("who met", x.later(0, 2, 1), 2);
        due("who met others", x.later(0, 3, 1), 1);
        due("who did not meet", x.later(1, 3, 3), 1 + 2 + 3);
        due("from as it is now", x.later(2, 0, 0), 1);
        due("from as it is now", x.later(0, 2, 3), 1 + 1 + 2 + 3);
        x.days(2);
        due("it grew cold", x.later(0, 2, 0), 0);
        due("from this DAY on", x.later(0, 2, 2), 3 + 4);
        due("apart", x.count(5), 2);
        due("apart", x.warmth(0, 2), 0);
        due("apart", x.most(0), 0);
    }

    private static void laterAtTheEnd() {
        says("A DAY (0 at first; 999 at most: none goes by then)");
        GloveHouses x = with("g;gh1;mn1;mn2;mn60", "y:d=999?1;y:d>999?5;y:0");
        pass(x, 998);
        due("later(0, 1, 1)", x.later(0, 1, 1), 0);
        due("later(0, 1, 2)", x.later(0, 1, 2), 1);
        due("later(0, 1, 3)", x.later(0, 1, 3), 2);
        due("later(0, 1, 60)", x.later(0, 1, 60), 59);
        due("soonest(0, 1)", x.soonest(0, 1), 2);
        due("soonest(1, 1)", x.soonest(1, 1), 3);
        due("soonest(2, 1)", x.soonest(2, 1), NONE);
        due("odds of 1 by 2", x.odds(0, 0, 1, 2, 0), PARTS);
        due("odds of 2 by 2", x.odds(1, 0, 1, 2, 0), 0);
        due("odds of 2 by 3", x.odds(1, 0, 1, 3, 0), PARTS);
        x.days(1);
        due("later(0, 1, 60)", x.later(0, 1, 60), 60);
        due("soonest(2, 1)", x.soonest(2, 1), 60);
    }

    private static void soonestBounds() {
        says("SOONEST: the two (0), in how many (1). NONE: by none, no such ones. .. within 60 DAYS (0: they are)");
        GloveHouses x = with("g;gh1;mn0;mn1;mn59;mn60", "y:1");
        int[] days = {0, 1, 59, 60};
        for (int m = 0; m < 4; m++) {
            due("soonest(" + m + ", 0)", x.soonest(m, 0), 1);
            due("soonest(" + m + ", 1)", x.soonest(m, 1), days[m]);
        }
        for (int what : new int[] {-1, 2, MIN, MAX}) due("soonest(0, " + what + ")", x.soonest(0, what), NONE);
        for (int m : new int[] {-1, 4, MIN, MAX}) due("soonest(" + m + ", 0)", x.soonest(m, 0), NONE);
        for (int m : new int[] {-1, 4, MIN, MAX}) due("soonest(" + m + ", 1)", x.soonest(m, 1), NONE);
        due("no PEACE", new GloveHouses().soonest(0, 0), NONE);
        due("no MATTER", with("g;gh1", "y:1").soonest(0, 0), NONE);
        GloveHouses y = with("g;gh1;mn60;mn59", "y:d=7?0;y:1");
        due("59 in 60 DAYS for 60", y.soonest(0, 0), NONE);
        due("59 in 60 DAYS for 60", y.soonest(0, 1), NONE);
        due("59 in 60 DAYS for 59", y.soonest(1, 1), 60);
        GloveHouses never = with("g;gh1;mn1;mn0", "y:0");
        due("never", never.soonest(0, 0), NONE);
        due("never", never.soonest(0, 1), NONE);
        due("they are", never.soonest(1, 0), 1);
        due("they are", never.soonest(1, 1), 0);
        says("would first be as WARM as it must be");
        GloveHouses once = with("g;gh1;mn9", "y:d=3?9;y:0-9");
        due("but for one DAY", once.soonest(0, 1), 4);
        GloveHouses warm = with("sk9;g;gh1;mn9;mn0", "y:9");
        warm.meets(0, 1);
        due("they are, now", warm.soonest(0, 1), 0);
        due("SIGNED or not", warm.matter(0, 2), 1);
        warm.days(1);
        due("still", warm.soonest(0, 1), 0);
        warm.days(1);
        due("no longer", warm.soonest(0, 1), 1);
    }

    private static void soonestOfSeveral() {
        says("of several the least .. 10 times the lower GLOVE and the higher one");
        due("all alike", with(SIX + ";m", "y:1").soonest(0, 0), 3);
        due("HOUSE 1 is lower", with("gh1;gh1;g;g;m", "y:1").soonest(0, 0), 2);
        due("mixed", with("gh1;g;gh1;g;m", "y:1").soonest(0, 0), 1);
        due("mixed", with("gf0;gh1f0;gh1f5;gf5;mn6", "y:f").soonest(0, 0), 23);
        due("sooner, though higher", with("gf0;gf1;gh1f0;gh1f1;mn2", "y:f").soonest(0, 0), 13);
        due("in how many", with("gf0;gf1;gh1f0;gh1f1;mn2", "y:f").soonest(0, 1), 1);
        due("two alike, then sooner ones", with("gf1;gf2;gh1f1;gh1f1;gh1f2;mn4", "y:f").soonest(0, 0), 14);
        due("two alike behind others", with("gf0;gf3;gh1f0;gh1f3;gh1f3;mn6", "y:f").soonest(0, 0), 13);
        GloveHouses first = with("gf5;gf1;gh1f1;gh1f0;mn6", "y:f");
        due("the first, and slower ones", first.soonest(0, 0), 2);
        due("in how many", first.soonest(0, 1), 1);
        GloveHouses amid = with("gf0;gf9;gf1;gh1f1;gh1f0;mn9", "y:f");
        due("one amid slower ones", amid.soonest(0, 0), 13);
        due("in how many", amid.soonest(0, 1), 1);
        GloveHouses x = with(SIX + ";mn5;mn0", "y:4");
        x.meets(2, 5);
        due("who is warmer", x.soonest(0, 0), 25);
        due("in how many", x.soonest(0, 1), 1);
        due("all are", x.soonest(1, 0), 3);
        due("all are", x.soonest(1, 1), 0);
    }

    // ---- MATCH

    private static void matchBounds() {
        says("MATCH: the row (0), how much (1). HIDDEN: no PEACE, no such what.");
        GloveHouses x = with(SIX, "y:1");
        for (int what : new int[] {-1, 2, MIN, MAX}) due("pairs(" + what + ")", x.pairs(what), HIDDEN);
        due("pairs(0)", x.pairs(0), 345);
        due("pairs(1)", x.pairs(1), 3);
        due("no PEACE", new GloveHouses().pairs(0), HIDDEN);
        due("no PEACE", new GloveHouses().pairs(1), HIDDEN);
        due("no PEACE, no such what", new GloveHouses().pairs(2), HIDDEN);
        says("COINS do not matter");
        due("without COINS", with("sk0;g;gh1", "y:4").pairs(1), 4);
        due("apart", x.most(0), 0);
    }

    private static void matchOfNobody() {
        says("nobody of HOUSE 0 that could: NONE");
        GloveHouses x = with("sk9;g;g;gh1;gh1;gh1", "y:2");
        x.meets(0, 4);
        due("one is left", x.pairs(0), 2);
        due("how much", x.pairs(1), 2);
        x.meets(1, 2);
        due("none is left", x.pairs(0), NONE);
        due("how much", x.pairs(1), 0);
        x.days(1);
        due("the next DAY", x.pairs(0), 23);
        says("9 nobody");
        GloveHouses y = with("sk9;g;g;g;gh1", "y:2");
        due("one for three", y.pairs(0), 399);
        due("how much", y.pairs(1), 2);
        y.meets(1, 3);
        due("none for two", y.pairs(0), 99);
        due("how much", y.pairs(1), 0);
        due("five and one", with("g;g;g;g;gf9;gh1", "y:f-9").pairs(0), 99995);
        due("five and one", with("g;g;g;g;g;gh1", "y:1").pairs(0), 59999);
        due("five and one by numbers", with("g;g;gh1;g;g;g", "y:1").pairs(0), 29999);
        due("one and five", with("g;gh1;gh1;gh1;gh1;gh1f5", "y:f-8").pairs(0), 5);
        due("with GLOVE 0", with("gh1;g;g", "y:1").pairs(0), 9);
        due("with GLOVE 0", with("gh1;gf1;gf2", "y:f").pairs(0), 90);
        due("with GLOVE 0", with("gh1;g", "y:1").pairs(0), 0);
    }

    private static void matchOfSeveral() {
        says("of several the least row");
        due("all alike", with(SIX, "y:7").pairs(0), 345);
        due("all 0: who meets is lower than nobody", with(SIX, "y:0").pairs(0), 345);
        due("all 0: how much", with(SIX, "y:0").pairs(1), 0);
        due("all below 0", with(SIX, "y:0-1").pairs(0), 999);
        due("all below 0: how much", with(SIX, "y:0-1").pairs(1), 0);
        due("one for two", with("g;g;gh1", "y:3").pairs(0), 29);
        due("the second is better", with("gf1;gf2;gh1", "y:f").pairs(0), 92);
        due("two rows of 7", with("gf1;gf2;gh1f1;gh1f3", "y:f").pairs(0), 23);
        due("how much", with("gf1;gf2;gh1f1;gh1f3", "y:f").pairs(1), 7);
        due("0 and below", with("gf1;gf0;gh1f0;gh1f0", "y:f-1").pairs(0), 29);
    }

    private static void matchIsMost() {
        says("the one by which RISES of all these meetings are most together; each at most with one");
        /* By how FREE both are together: 3 is best alone, but then 0 would be left, and 2 and 1 are more. */
        GloveHouses x = with("gf0;gf1;gh1f0;gh1f2", "y:f=3?5;y:f=2?4;y:f=1?3;y:0-5");
        due("the row", x.pairs(0), 32);
        due("how much", x.pairs(1), 7);
        x = with("gf0;gf1;gh1f0;gh1f2", "y:f=3?9;y:f=2?4;y:f=1?3;y:0-5");
        due("the row", x.pairs(0), 93);
        due("how much", x.pairs(1), 9);
        x = with("gf0;gf1;gh1f0;gh1f2", "y:f=3?9;y:f=2?4;y:f=1?3;y:0-1");
        due("the row", x.pairs(0), 93);
        x = with("gf0;gf1;gh1f0;gh1f2", "y:f=3?9;y:f=2?4;y:f=1?3;y:0");
        due("nothing more, but less of a row", x.pairs(0), 23);
        says("each as it is now");
        x = with("sk9;g;g;gh1;gh1", "y:9-w");
        x.meets(0, 2);
        x.days(1);
        due("by WARMTH", x.pairs(0), 32);
        due("how much", x.pairs(1), 18);
    }

    // ---- ALLKNOW

    private static void allKnowBounds() {
        says("in how many DAYS (0 .. 30) each GLOVE KNOWS each SECRET .. NONE: not within 30, no PEACE.");
        due("no PEACE", new GloveHouses().allKnow(), NONE);
        for (int d = 0; d < 32; d++) {
            due("from DAY " + d + " on", with("g;gh1", "y:d<" + d + "?0-1;y:1").allKnow(), d < 30 ? d + 1 : NONE);
        }
        GloveHouses x = with("sk1;g;gh1", "y:1");
        due("two, by today", x.allKnow(), 1);
        x.meets(0, 1);
        due("they do", x.allKnow(), 0);
        x.days(1);
        due("still", x.allKnow(), 0);
        due("who never meet", with("g;gh1", "y:0-1").allKnow(), NONE);
        says("0 as RISES: they MEET");
        due("two", with("g;gh1", "y:0").allKnow(), 1);
    }

    private static void allKnowDays() {
        says("if each DAY, from this one on, MATCH is done by numbers (all of the row, SIGNED or not)");
        /* 0 by 1, then by 2 (1 grew cold, but not to 0), then by 1 again: 9, 9, 9 - 8. */
        due("three", with("g;gh1;gh1", "y:9-w").allKnow(), 3);
        GloveHouses met = with("sk9;g;gh1;gh1", "y:9-w");
        met.meets(0, 1);
        due("met this DAY: none today, then by 2, by 1", met.allKnow(), 3);
        met.days(1);
        due("by 2, by 1", met.allKnow(), 2);
        met.meets(0, 2);
        met.days(1);
        due("by 1", met.allKnow(), 1);
        /* Two of each: 0-2 and 1-3, then 0-3 and 1-2: all of the row each DAY. */
        due("two of each", with("g;g;gh1;gh1", "y:9-w").allKnow(), 2);
        /* 345, 453, 534: each KNOWS two, then four, then all. */
        due("three of each", with(SIX, "y:9-w").allKnow(), 3);
        /* 0 and 2, 1 and 2 (these KNOW all then), 0 and 2: it's GLOVE 0 that's the last. */
        due("the lowest is the last", with("g;g;gh1", "y:9-w").allKnow(), 3);
        due("with what is SIGNED", with("g;g;gh1;gh1;mn0;mn0;mn9", "y:9-w").allKnow(), 2);
        due("without COINS", with("sk0;g;g;gh1;gh1", "y:9-w").allKnow(), 2);
        due("the same two each DAY", with("g;g;gh1;gh1", "y:1+w").allKnow(), NONE);
        GloveHouses x = with("g;g;gh1;gh1", "y:9-w");
        x.allKnow();
        due("apart", x.count(5), 0);
        due("apart", x.count(6), 0);
        due("apart", x.glove(0, 5), 1);
        due("apart", x.rule(1), 20);
        says("WARMTH .. is 1 less, as no one meets, in ALLKNOW, too");
        /* DAY 0: 0 meets 1 (4); 1, 2: nobody (3, 2); 3: 0 meets 2 (1); 4: 0 meets 1 for 4 - 4 * 1 = 0. */
        due("cooling", with("gf1;gh1f1;gh1f0", "y:f=2?4-4*w;y:d=3?1;y:0-1").allKnow(), 5);
    }

    private static void allKnowAtTheEnd() {
        says("A DAY (0 at first; 999 at most: none goes by then)");
        GloveHouses x = with("sk9;g;gh1;gh1", "y:9-w");
        pass(x, 997);
        due("997, 998, 999", x.allKnow(), 3);
        x.days(1);
        due("998, 999", x.allKnow(), NONE);
        GloveHouses y = with("g;gh1", "y:1");
        pass(y, 999);
        due("the last one itself", y.allKnow(), 1);
        GloveHouses z = with("sk9;g;gh1;gh1", "y:9-w");
        pass(z, 999);
        z.meets(0, 1);
        due("they met on the last one", z.allKnow(), NONE);
    }

    // ---- SEEN, FITS, ASK

    private static void seenBounds() {
        says("SEEN (10 at most) .. by v (-9 .. 9). NONE: no such ones, of one HOUSE, out of bounds, there are ten.");
        GloveHouses x = with(SIX);
        for (int[] n : NO_TWO) due("seen(" + n[0] + ", " + n[1] + ")", x.seen(n[0], n[1], 0, true), NONE);
        for (int v : new int[] {-10, 10, MIN, MAX}) due("v " + v, x.seen(0, 3, v, true), NONE);
        for (int v : new int[] {-10, 10, MIN, MAX}) due("v " + v, x.seen(0, 3, v, false), NONE);
        due("none yet", x.count(9), 0);
        due("v -9", x.seen(0, 3, -9, true), 1);
        due("v 9", x.seen(3, 0, 9, false), 2);
        for (int i = 3; i <= 10; i++) due("another", x.seen(5, 2, 0, true), i);
        due("an eleventh", x.seen(0, 3, 0, true), NONE);
        due("ten", x.count(9), 10);
        due("no PEACE", new GloveHouses().seen(0, 1, 0, true), NONE);
        GloveHouses full = with("gf0;gh1f0", "y:f");
        for (int i = 0; i < 10; i++) full.seen(0, 1, 5, true);
        due("five fit", full.fits(0, NONE), 5);
        due("an eleventh", full.seen(0, 1, 9, true), NONE);
        due("it is not SEEN", full.fits(0, NONE), 5);
    }

    private static void fitsBounds() {
        says("how FREE (0 .. 9): how many (i NONE), the i-th (rising). NONE: no such one, no such GLOVE.");
        GloveHouses x = with(SIX);
        for (int i = 0; i <= 9; i++) due("fits(5, " + i + ")", x.fits(5, i), i);
        due("all", x.fits(5, NONE), 10);
        for (int i : new int[] {10, 11, -2, MIN, MAX}) due("fits(0, " + i + ")", x.fits(0, i), NONE);
        for (int no : new int[] {-1, 6, MIN, MAX}) {
            due("fits(" + no + ", NONE)", x.fits(no, NONE), NONE);
            due("fits(" + no + ", 0)", x.fits(no, 0), NONE);
        }
        due("no PEACE", new GloveHouses().fits(0, NONE), NONE);
        says("it RISES by v (-9 .. 9) or more, or does not");
        for (int v = -9; v <= 9; v++) {
            int low = Math.max(0, v);
            GloveHouses more = with("gf3;gh1f0", "y:f");
            more.seen(0, 1, v, true);
            due("v " + v + " or more", more.fits(0, NONE), 10 - low);
            due("the first", more.fits(0, 0), low);
            due("the last", more.fits(0, 9 - low), 9);
            due("behind the last", more.fits(0, 10 - low), NONE);
            GloveHouses less = with("gf3;gh1f0", "y:f");
            less.seen(1, 0, v, false);
            due("not v " + v, less.fits(0, NONE), low);
            due("the first", less.fits(0, 0), low == 0 ? NONE : 0);
            due("the last", less.fits(0, low - 1), low == 0 ? 0 : low - 1);
            due("behind the last", less.fits(0, low), NONE);
        }
        GloveHouses y = with("gf3;gh1f0", "y:f-9");
        y.seen(0, 1, -9, true);
        due("-9 or more is always so", y.fits(0, NONE), 10);
        y.seen(0, 1, -9, false);
        due("never not", y.fits(0, NONE), 0);
        due("none is there", y.fits(0, 0), NONE);
        due("none is there for both", y.fits(1, NONE), 0);
        GloveHouses gap = with("gf3;gh1f0", "y:f=3?9;y:f=7?9;y:0");
        gap.seen(0, 1, 9, true);
        due("two apart", gap.fits(0, NONE), 2);
        due("the first", gap.fits(0, 0), 3);
        due("the second", gap.fits(0, 1), 7);
        due("a third", gap.fits(0, 2), NONE);
    }

    private static void fitsAsTold() {
        says("all SEEN with it is so (all else as told, PRIDE, too) .. at WARMTH 0, on DAY 0");
        GloveHouses x = with("sp3k99;gf2s1;gf3;gh1f4s2;gh1f1;mn0", "y:f-s-p-w-d");
        x.seen(0, 2, 4, true);
        x.seen(3, 0, 0, false);
        // with 2: f + 4 - 3 - 3 >= 4: 6 .. 9; with 3: f + 1 - 4 - 3 < 0: 0 .. 5
        due("neither", x.fits(0, NONE), 0);
        // 2 + f - 3 - 3 >= 4: 8, 9
        due("of 2", x.fits(2, NONE), 2);
        due("of 2", x.fits(2, 0), 8);
        // 2 + f - 4 - 3 < 0: 0 .. 4
        due("of 3", x.fits(3, NONE), 5);
        due("of 3", x.fits(3, 4), 4);
        due("not SEEN", x.fits(1, NONE), 10);
        x.meets(0, 2);
        x.meets(1, 3);
        x.days(7);
        x.loosen(0);
        x.loosen(2);
        x.stuff(0, 9);
        x.stuff(2, 0);
        x.swallow();
        x.tear(0);
        x.tear(0);
        x.swallow();
        due("as told: 0", x.fits(0, NONE), 0);
        due("as told: 2", x.fits(2, NONE), 2);
        due("as told: 3", x.fits(3, NONE), 5);
        due("by what it RISES now", x.rises(0, 2) == 3 + 5 - 9 - 3, false);
        says("by the LAW that holds");
        feed(x, "y:9");
        x.law(x.text(1));
        due("9 is 4 or more, and 0, too", x.fits(2, NONE), 10);
        due("9 is 0 or more", x.fits(3, NONE), 0);
        x.law(NONE);
        // without one: (2 + f) / 2 + 2 - 1 - 3 / 4 >= 4: 4 .. 9
        due("without one", x.fits(2, NONE), 6);
    }

    private static void askBounds() {
        says("ASK. NONE: nothing fits, no such GLOVE, out of bounds.");
        GloveHouses x = with(SIX);
        for (int v = -9; v <= 9; v++) due("v " + v, x.ask(0, v), 3);
        for (int v : new int[] {-10, 10, MIN, MAX}) due("v " + v, x.ask(0, v), NONE);
        for (int no : new int[] {-1, 6, MIN, MAX}) due("GLOVE " + no, x.ask(no, 0), NONE);
        due("the last GLOVE", x.ask(5, 0), 0);
        due("no PEACE", new GloveHouses().ask(0, 0), NONE);
        GloveHouses y = with("gf0;gh1f0;gh1f0", "y:f");
        y.seen(0, 1, 9, true);
        due("one fits", y.ask(0, 9), 1);
        y.seen(0, 2, 9, false);
        due("nothing fits", y.ask(0, 9), NONE);
        due("of another one does", y.ask(1, 9), 0);
        GloveHouses none = with("gf0;gh1f0;gh1f9", "y:f");
        none.seen(0, 1, 1, false);
        due("just 0 fits", none.fits(0, NONE), 1);
        due("it is one", none.ask(0, 1), 1);
        none.seen(0, 1, 0, false);
        due("not even 0 fits", none.ask(0, 1), NONE);
        GloveHouses two = with("gf0;gh1f9;gh1f0", "y:f");
        two.seen(0, 2, 2, false);
        due("0 and 1 fit", two.fits(0, NONE), 2);
        due("both with 1, one of them with 2", two.ask(0, 1), 2);
    }

    private static void askOfSeveral() {
        says("with whom v or more and less are least apart in number among these (of several the lowest)");
        /* How FREE 0 .. 9 and the other: 0 with 1, 3 with 2, 5 with 3, 5 with 4. */
        GloveHouses x = with("gf9;gh1f0;gh1f3;gh1f5;gh1f5", "y:f");
        // v 5: 5 .. 9 (5 to 5) with 1, 2 .. 9 (8 to 2) with 2, all with 3
        due("ask(0, 5)", x.ask(0, 5), 1);
        // v 8: 8, 9 (2 to 8) with 1, 5 .. 9 (5 to 5) with 2, 3 .. 9 (7 to 3) with 3
        due("ask(0, 8)", x.ask(0, 8), 2);
        // v 9: 1 to 9, 4 to 6, 6 to 4 and 6 to 4: 2 is the lowest of those 2 apart
        due("ask(0, 9)", x.ask(0, 9), 2);
        due("ask(0, 0)", x.ask(0, 0), 1);
        due("ask(0, -9)", x.ask(0, -9), 1);
        x.seen(0, 1, 4, true);
        // 4 .. 9: v 9: 1 to 5, 4 to 2, 6 to 0; v 7: 3 to 3, 6 to 0; v 8: 2 to 4, 5 to 1, 6 to 0
        due("ask(0, 9)", x.ask(0, 9), 2);
        due("ask(0, 7)", x.ask(0, 7), 1);
        due("ask(0, 8)", x.ask(0, 8), 1);
        x.seen(0, 1, 6, false);
        // 4, 5: v 9: 0 to 2, 0 to 2, 2 to 0, 2 to 0: of several the lowest; v 8: 0 to 2, 1 to 1, 2 to 0
        due("ask(0, 9)", x.ask(0, 9), 1);
        due("ask(0, 8)", x.ask(0, 8), 2);
        due("HOUSE 1 asks HOUSE 0", x.ask(4, 3), 0);
        due("just the other HOUSE", with("g;g;g;gh1f0", "y:f").ask(2, 1), 3);
        due("lower ones of the other HOUSE", with("gh1f9;gh1f0;gf0", "y:f").ask(2, 5), 1);
        due("by its own, not by what it is", with("gf9;gh1f1;gh1f6", "y:f").ask(0, 6), 1);
    }

    // ---- GAME, SURE, RESTS

    private static void gameBounds() {
        says("GAME: what HOUSE 0 has (0), HOUSE 1 (1). HIDDEN: no PEACE, out of bounds. .. they send, 0 .. 4");
        GloveHouses x = with("gf0;gh1f0", "y:2");
        for (int i = -1; i <= 5; i++) {
            for (int j = -1; j <= 5; j++) {
                boolean out = i < 0 || i > 4 || j < 0 || j > 4;
                int first = out ? HIDDEN : i > 0 ? -20 : j > 0 ? 0 : 2;
                int second = out ? HIDDEN : j > 0 ? -20 : i > 0 ? 0 : 2;
                due("game(" + i + ", " + j + ", 0)", x.game(i, j, 0), first);
                due("game(" + i + ", " + j + ", 1)", x.game(i, j, 1), second);
            }
        }
        for (int what : new int[] {-1, 2, MIN, MAX}) due("game(0, 0, " + what + ")", x.game(0, 0, what), HIDDEN);
        due("game(MAX, 0, 0)", x.game(MAX, 0, 0), HIDDEN);
        due("game(0, MIN, 0)", x.game(0, MIN, 0), HIDDEN);
        due("no PEACE", new GloveHouses().game(0, 0, 0), HIDDEN);
    }

    private static void gameNotThere() {
        says("is one not there, its HOUSE has -20, the other 0 (neither: both -20)");
        GloveHouses x = with("gh1;g;g;g;g;g", "y:3");
        due("the fifth is there", x.game(4, 0, 0), 3 - 1);
        due("the second of HOUSE 1 is not", x.game(4, 1, 0), 0);
        due("the second of HOUSE 1 is not", x.game(4, 1, 1), -20);
        GloveHouses y = with("g;gh1;gh1;gh1;gh1;gh1", "y:3");
        due("the fifth is there", y.game(0, 4, 1), 3 - 1);
        due("the second of HOUSE 0 is not", y.game(1, 4, 1), 0);
        due("the second of HOUSE 0 is not", y.game(1, 4, 0), -20);
        GloveHouses z = with("g;g;gh1;gh1", "y:3");
        due("neither", z.game(2, 2, 0), -20);
        due("neither", z.game(2, 2, 1), -20);
        due("neither", z.game(4, 4, 0), -20);
        due("both", z.game(1, 1, 1), 2);
        says("by how many of its HOUSE are lower");
        GloveHouses mixed = with("gh1f1;gf2;gh1f3;gf4", "y:f");
        due("game(0, 0, 0)", mixed.game(0, 0, 0), 3);
        due("game(0, 1, 0)", mixed.game(0, 1, 0), 5);
        due("game(1, 0, 0)", mixed.game(1, 0, 0), 5 - 1);
        due("game(1, 1, 0)", mixed.game(1, 1, 0), 7 - 1);
        due("game(1, 1, 1)", mixed.game(1, 1, 1), 7 - 1);
        due("game(1, 0, 1)", mixed.game(1, 0, 1), 5);
    }

    private static void gameCut() {
        says("RISES of both, less how FREE its own is by 3, cut");
        int[] thirds = {0, 0, 0, 1, 1, 1, 2, 2, 2, 3};
        for (int free = 0; free <= 9; free++) {
            GloveHouses x = with("gf" + free + ";gh1f" + (9 - free), "y:4");
            due("HOUSE 0 at " + free, x.game(0, 0, 0), 4 - thirds[free]);
            due("HOUSE 1 at " + (9 - free), x.game(0, 0, 1), 4 - thirds[9 - free]);
        }
        due("the least", with("gf9;gh1f9", "y:0-9").game(0, 0, 0), -12);
        due("the most", with("gf0;gh1f0", "y:9").game(0, 0, 0), 9);
        GloveHouses x = with("sk9;gf2;gh1", "y:w+d");
        x.loosen(0);
        x.meets(0, 1);
        x.days(1);
        due("as it is now", x.game(0, 0, 0), 1 - 1);
    }

    private static void sure() {
        says("SURE. HIDDEN: no such HOUSE, no PEACE. .. the most that it has at least, whatever of its GLOVES the other sends");
        GloveHouses one = with("gf0;gh1f0", "y:2");
        due("one of each", one.sure(0), 2);
        due("one of each", one.sure(1), 2);
        for (int house : new int[] {-1, 2, MIN, MAX}) due("sure(" + house + ")", one.sure(house), HIDDEN);
        due("no PEACE", new GloveHouses().sure(0), HIDDEN);
        due("no PEACE", new GloveHouses().sure(1), HIDDEN);
        due("the least there is", with("gf9;gh1f9", "y:0-9").sure(0), -12);
        due("the most there is", with("gf0;gh1f0", "y:9").sure(1), 9);
        /* 0: 0 and 5 by 2 and 3; 1: 3 and 2 by 2 and 3. */
        GloveHouses x = with("gf0;gf1;gh1f0;gh1f2", "y:f=0?0;y:f=2?5;y:f=1?3;y:2");
        due("HOUSE 0", x.sure(0), 2);
        due("HOUSE 1", x.sure(1), 2);
        GloveHouses y = with("gf0;gf1;gh1f0;gh1f2", "y:f=0?1;y:f=2?5;y:f=1?0;y:2");
        due("HOUSE 0: of 1 and 5, of 0 and 2", y.sure(0), 1);
        due("HOUSE 1: of 1 and 0, of 5 and 2", y.sure(1), 2);
        due("who is not there is not sent", with("gf0;gh1f0;gh1f0;gh1f0", "y:0-5").sure(0), -5);
        due("of five", with("gf0;gf1;gf2;gf3;gf6;gh1f0", "y:f").sure(0), 4);
    }

    private static void rests() {
        says("RESTS: how many (i NONE), the i-th. NONE: no such one, no PEACE. .. neither has more by another of its own");
        GloveHouses one = with("g;gh1", "y:0-9");
        due("one of each", one.rests(NONE), 1);
        due("the first", one.rests(0), 0);
        for (int i : new int[] {1, -2, MIN, MAX}) due("rests(" + i + ")", one.rests(i), NONE);
        due("no PEACE", new GloveHouses().rests(NONE), NONE);
        due("no PEACE", new GloveHouses().rests(0), NONE);
        says("as much is not more");
        GloveHouses all = with("gf0;gf0;gf0;gh1f0;gh1f0;gh1f0", "y:1");
        due("all", all.rests(NONE), 9);
        int[] rising = {0, 1, 2, 10, 11, 12, 20, 21, 22};
        for (int i = 0; i < 9; i++) due("rests(" + i + ")", all.rests(i), rising[i]);
        due("rests(9)", all.rests(9), NONE);
        GloveHouses fives = with("gh1f0;gf0;gf0;gf0;gf0;gf0", "y:1");
        due("five", fives.rests(NONE), 5);
        due("the last", fives.rests(4), 40);
        GloveHouses two = with("ga1f0;ga2f0;gh1a1f0;gh1a2f0", "y:a");
        due("two", two.rests(NONE), 2);
        due("the first", two.rests(0), 0);
        due("the second", two.rests(1), 11);
        GloveHouses crossed = with("ga1f0;ga2f0;gh1a2f0;gh1a1f0", "y:a");
        due("the first", crossed.rests(0), 1);
        due("the second", crossed.rests(1), 10);
        GloveHouses others = with("gf0;gh1f0;gh1f0;gh1f0;gh1f0;gh1f0", "y:1");
        due("five", others.rests(NONE), 5);
        due("the last", others.rests(4), 4);
        says("less how FREE its own is: who costs less");
        for (int best = 0; best < 4; best++) {
            StringBuilder gloves = new StringBuilder("gh1f0");
            for (int i = 0; i < 4; i++) gloves.append(i == best ? ";gf2" : ";gf3");
            GloveHouses x = with(gloves.toString(), "y:0");
            due("just one", x.rests(NONE), 1);
            due("the " + best + ".", x.rests(0), 10 * best);
            GloveHouses y = with(gloves.toString().replace("gf", "gh1f").replace("gh1f0", "gf0"), "y:0");
            due("just one", y.rests(NONE), 1);
            due("the " + best + ".", y.rests(0), best);
        }
        due("the lowest of HOUSE 0", with("gf2;gf3;gh1f0", "y:0").rests(NONE), 1);
        due("the lowest of HOUSE 1", with("gh1f2;gh1f3;gf0", "y:0").rests(NONE), 1);
        GloveHouses cost = with("gf3;gf2;gh1f5;gh1f6", "y:0");
        due("one", cost.rests(NONE), 1);
        due("2 and 5", cost.rests(0), 10);
    }

    // ---- ODDS

    private static void oddsBounds() {
        says("ODDS: n (0 .. 8) meetings, a chance (0 .. 100). NONE: no such ones, of one HOUSE, out of bounds.");
        GloveHouses x = with(SIX + ";mn1;mn9", "y:1");
        for (int[] n : NO_TWO) due("odds of " + n[0] + " and " + n[1], x.odds(0, n[0], n[1], 1, 0), NONE);
        for (int m : new int[] {-1, 2, 5, MIN, MAX}) due("odds of MATTER " + m, x.odds(m, 0, 3, 1, 0), NONE);
        for (int n : new int[] {-1, 9, MIN, MAX}) due("n " + n, x.odds(0, 0, 3, n, 0), NONE);
        for (int c : new int[] {-1, 101, MIN, MAX}) due("chance " + c, x.odds(0, 0, 3, 1, c), NONE);
        due("n 0", x.odds(0, 0, 3, 0, 0), 0);
        due("n 8", x.odds(0, 0, 3, 8, 0), PARTS);
        due("chance 0", x.odds(0, 0, 3, 1, 0), PARTS);
        due("chance 1", x.odds(0, 0, 3, 1, 1), PARTS / 100 * 99);
        due("chance 99", x.odds(0, 0, 3, 1, 99), PARTS / 100);
        due("chance 100", x.odds(0, 0, 3, 1, 100), 0);
        due("chance 100, n 8", x.odds(0, 0, 3, 8, 100), 0);
        due("the other way round", x.odds(0, 3, 0, 1, 25), 750000000);
        due("the last two", x.odds(1, 5, 2, 8, 0), 0);
        due("no PEACE", new GloveHouses().odds(0, 0, 1, 0, 0), NONE);
        due("no MATTER", with("g;gh1").odds(0, 0, 1, 0, 0), NONE);
    }

    private static void oddsOfNone() {
        says("those by which it is as WARM as it must be behind one of these");
        GloveHouses x = with("sk9;g;gh1;mn0;mn4;mn5;mn8", "y:4");
        due("at 0 for 0, no meeting", x.odds(0, 0, 1, 0, 0), 0);
        due("at 0 for 0, a quarrel", x.odds(0, 0, 1, 1, 100), PARTS);
        x.meets(0, 1);
        due("at 4 for 4, no meeting", x.odds(1, 0, 1, 0, 0), 0);
        due("at 4 for 4, a quarrel", x.odds(1, 0, 1, 1, 100), 0);
        due("at 4 for 5", x.odds(2, 0, 1, 1, 0), PARTS);
        due("at 4 for 8: as WARM", x.odds(3, 0, 1, 1, 0), PARTS);
        due("SIGNED or not", x.matter(0, 2), 1);
        due("who met this DAY", x.odds(3, 0, 1, 1, 50), PARTS / 2);
        GloveHouses falls = with("g;gh1;mn9", "y:d=0?9;y:0-9");
        for (int n = 1; n <= 8; n++) due("behind the first of " + n, falls.odds(0, 0, 1, n, 0), PARTS);
        GloveHouses late = with("g;gh1;mn9", "y:d=7?9;y:0");
        for (int n = 0; n <= 8; n++) due("behind the eighth of " + n, late.odds(0, 0, 1, n, 0), n < 8 ? 0 : PARTS);
        due("apart", late.warmth(0, 1), 0);
    }

    private static void oddsHalf() {
        says("WARMTH is half then, cut, instead of RISING");
        int[] law = {1, 2, 3, 4, 5, 6, 7, 8, 9};
        for (int w : law) {
            GloveHouses x = with("sk9;g;gh1;mn" + w / 2 + ";mn" + (w / 2 + 1), "y:" + w);
            x.meets(0, 1);
            due("half of " + w, x.odds(0, 0, 1, 1, 100), PARTS);
            due("not more than half of " + w, x.odds(1, 0, 1, 1, 100), 0);
        }
        GloveHouses top = with("sk99;g;gh1;mn49;mn50;mn24", "y:9");
        meetDaily(top, 0, 1, 11);
        due("half of 99", top.odds(0, 0, 1, 1, 100), PARTS);
        due("not 50", top.odds(1, 0, 1, 1, 100), 0);
        due("a half of 99 is enough already", top.odds(2, 0, 1, 2, 100), PARTS);
        says("RISING: 0 .. 99");
        GloveHouses low = with("g;gh1;mn1", "y:d=0?0-9;y:1");
        due("0 at least", low.odds(0, 0, 1, 2, 0), PARTS);
        says("each by itself");
        /* 6 by two RISES running, or 3 1 4 7: rise, quarrel, rise, rise; and with a quarrel first. */
        GloveHouses x = with("g;gh1;mn6", "y:3");
        due("two of two", x.odds(0, 0, 1, 2, 50), 250000000);
        due("of three", x.odds(0, 0, 1, 3, 50), 250000000 + 125000000);
        due("of four", x.odds(0, 0, 1, 4, 50), 250000000 + 125000000 + 2 * 62500000);
    }

    private static void oddsCut() {
        says("of 10 to the 9 parts .. (of each part chance 100ths, cut, quarrel)");
        GloveHouses x = with("g;gh1;mn1", "y:9");
        /* All but those that quarrel each time: 10^9, 10^7, 10^5, 1000, 10, and a 100th of 10, cut, is none. */
        int[] left = {10000000, 100000, 1000, 10, 0, 0, 0, 0};
        for (int n = 1; n <= 8; n++) due("n " + n + ", chance 1", x.odds(0, 0, 1, n, 1), PARTS - left[n - 1]);
        long parts = PARTS;
        for (int n = 1; n <= 8; n++) {
            parts = parts * 67 / 100;
            due("n " + n + ", chance 67", x.odds(0, 0, 1, n, 67), PARTS - parts);
        }
        GloveHouses y = with("g;gh1;mn8", "y:1");
        due("eight running, chance 50", y.odds(0, 0, 1, 8, 50), 3906250);
        parts = PARTS;
        for (int n = 1; n <= 8; n++) parts -= parts * 33 / 100;
        due("eight running, chance 33", y.odds(0, 0, 1, 8, 33), parts);
        due("seven can't", y.odds(0, 0, 1, 7, 0), 0);
        /* Warm at the eighth alone, whatever was: each of the 128 parts ahead of it is cut by itself. */
        GloveHouses z = with("g;gh1;mn9", "y:d=7?9;y:0");
        long sum = 0;
        for (int path = 0; path < 128; path++) {
            long part = PARTS;
            for (int k = 0; k < 7; k++) {
                long quarrel = part * 13 / 100;
                part = (path >> k & 1) == 1 ? quarrel : part - quarrel;
            }
            sum += part - part * 13 / 100;
        }
        due("each part by itself", z.odds(0, 0, 1, 8, 13), sum);
        /* Joined by their WARMTH, which is 0 in all of them, just 13 100ths of all would quarrel then. */
        due("that is not all at once", sum != PARTS - PARTS / 100 * 13, true);
    }

    private static void oddsDays() {
        says("one each DAY .. (a DAY behind each; they do meet)");
        GloveHouses x = with("sk9;g;gh1;mn3;mn4", "y:d+1");
        due("1 and 2", x.odds(0, 0, 1, 2, 0), PARTS);
        due("not 4", x.odds(1, 0, 1, 2, 0), 0);
        // 1 3, or 1 0 3, or 0 2 5, or 0 0 3
        due("a quarrel takes a DAY, too", x.odds(0, 0, 1, 3, 50), 250000000 + 3 * 125000000);
        x.days(2);
        due("from this DAY on", x.odds(0, 0, 1, 1, 0), PARTS);
        due("not 4", x.odds(1, 0, 1, 1, 0), 0);
        due("apart", x.count(5), 2);
        says("they do meet: it grows no colder by a quarrel's DAY");
        GloveHouses y = with("sk9;g;gh1;mn3", "y:2");
        y.meets(0, 1);
        // 2, a quarrel: 1, then 3 (it would be 2 had it grown cold)
        due("1 and 2 are 3", y.odds(0, 0, 1, 2, 50), PARTS / 2 + PARTS / 4);
    }

    private static void oddsOfTheTwo() {
        oddsAmong("000111");
        oddsAmong("010101");
        oddsAmong("110010");
    }

    /** Six GLOVES of these HOUSES, how FREE each is another; then one WARMTH after the other between two alone. */
    private static void oddsAmong(String houses) {
        says("ODDS of a MATTER for two");
        StringBuilder told = new StringBuilder("sk9");
        StringBuilder alike = new StringBuilder("sk9");
        for (int g = 0; g < 6; g++) {
            told.append(";gh").append(houses.charAt(g)).append("f").append(g);
            alike.append(";gh").append(houses.charAt(g));
        }
        GloveHouses x = with(told + ";mn1;mn2;mn4;mn6;mn8", "y:f");
        int[] needs = {1, 2, 4, 6, 8};
        for (int two = 0; two < 36; two++) {
            int one = two / 6;
            int other = two % 6;
            if (houses.charAt(one) == houses.charAt(other)) continue;
            for (int m = 0; m < 5; m++) {
                due("one meeting of " + one + " and " + other + " for " + needs[m], x.odds(m, one, other, 1, 0),
                    one + other >= needs[m] ? PARTS : 0);
            }
            int law = 2 + (5 * one + other) % 8;
            GloveHouses y = with(alike + ";mn" + law / 2 + ";mn" + (law / 2 + 1), "y:" + law);
            y.meets(one, other);
            due("half of what is between " + one + " and " + other, y.odds(0, one, other, 1, 100), PARTS);
            due("half of what is between " + other + " and " + one, y.odds(0, other, one, 1, 100), PARTS);
            due("no more of it", y.odds(1, one, other, 1, 100), 0);
            for (int else2 = 0; else2 < 36; else2++) {
                int p = else2 / 6;
                int q = else2 % 6;
                boolean same = p == one && q == other || p == other && q == one;
                if (!same && houses.charAt(p) != houses.charAt(q)) due("of others", y.odds(0, p, q, 1, 100), 0);
            }
        }
    }

    // ---- SHARES, most, ALLIES

    private static void shares() {
        says("SHARES of c (0 .. 999). NONE: no such HOUSE, no PEACE, out of bounds. .. cut (none is: 0)");
        GloveHouses x = with("gf1;gh1f2");
        due("c 0", x.shares(0, 0), 0);
        due("c 1", x.shares(0, 1), 0);
        due("c 1", x.shares(1, 1), 0);
        due("c 2", x.shares(0, 2), 0);
        due("c 2", x.shares(1, 2), 1);
        due("c 3", x.shares(0, 3), 1);
        due("c 998", x.shares(0, 998), 332);
        due("c 999", x.shares(0, 999), 333);
        due("c 999", x.shares(1, 999), 666);
        for (int c : new int[] {-1, 1000, MIN, MAX}) {
            due("c " + c, x.shares(0, c), NONE);
            due("c " + c, x.shares(1, c), NONE);
        }
        for (int house : new int[] {-1, 2, MIN, MAX}) due("shares(" + house + ", 1)", x.shares(house, 1), NONE);
        due("no PEACE", new GloveHouses().shares(0, 1), NONE);
        GloveHouses none = with("sk9;gf0;gh1f0");
        due("none is FREE", none.shares(0, 999), 0);
        due("none is FREE", none.shares(1, 999), 0);
        due("none is FREE, out of bounds", none.shares(1, 1000), NONE);
        none.loosen(0);
        due("one is", none.shares(0, 999), 999);
        due("the other is not", none.shares(1, 999), 0);
        GloveHouses most = with("gf9;gf9;gf9;gf9;gf9;gh1f9");
        due("the most", most.shares(0, 999), 832);
        due("the rest", most.shares(1, 999), 166);
    }

    private static void mostBounds() {
        says("NONE: no PEACE, no such what.");
        GloveHouses x = with("gh1;g");
        int[] first = {0, 0, 1, 1, 0, 0, NONE, 0, 0};
        for (int what = 0; what < 9; what++) {
            due("most(" + what + ")", x.most(what), first[what]);
            due("no PEACE: most(" + what + ")", new GloveHouses().most(what), NONE);
        }
        for (int what : new int[] {-1, 9, MIN, MAX}) due("most(" + what + ")", x.most(what), NONE);
        says("MET: GLOVES (bits) that met this DAY. SIGNED: MATTERS (bits)");
        GloveHouses y = with("sk9;g;g;g;gh1;gh1;gh1;mn0;mn0;mn60;mn60;mn0", "y:1");
        due("none", y.most(0), 0);
        y.meets(2, 5);
        due("2 and 5", y.most(0), 36);
        due("the first", y.most(1), 1);
        y.meets(1, 4);
        y.meets(0, 3);
        due("all", y.most(0), 63);
        due("the fifth, too", y.most(1), 19);
        y.tear(0);
        due("torn up", y.most(1), 18);
    }

    private static void warmestColdest() {
        says("WARMEST .. the two with the most WARMTH, COLDEST with the least (of several the least, both)");
        GloveHouses x = with(SIX, "y:3");
        due("all 0", x.most(2), 3);
        due("all 0", x.most(3), 3);
        x.meets(0, 3);
        due("the first", x.most(2), 3);
        due("but the first", x.most(3), 4);
        x.meets(5, 2);
        due("two alike", x.most(2), 3);
        x.days(1);
        x.meets(2, 5);
        due("the last", x.most(2), 25);
        GloveHouses y = with("sk99;gh1;g;g;gh1", "y:2");
        due("HOUSE 1 is lower", y.most(2), 1);
        due("HOUSE 1 is lower", y.most(3), 1);
        y.meets(2, 3);
        due("2 and 3", y.most(2), 23);
        y.meets(1, 0);
        due("two alike", y.most(2), 1);
        due("0 and 2", y.most(3), 2);
        y.days(1);
        y.meets(0, 2);
        y.meets(1, 3);
        // 0-1 and 2-3 are 2 still, 0-2 and 1-3 are 2
        due("all alike", y.most(2), 1);
        due("all alike", y.most(3), 1);
        y.days(1);
        // 0-1 and 2-3 are 1 now
        due("the warmer two", y.most(2), 2);
        due("the colder two", y.most(3), 1);
        GloveHouses one = with("g;gh1", "y:9");
        due("the only two", one.most(2), 1);
        due("the only two", one.most(3), 1);
        one.meets(0, 1);
        due("the only two", one.most(3), 1);
    }

    /** WARMEST, COLDEST and DUE by WARMTH between each two, for drawn meetings among drawn HOUSES. */
    private static void warmestOfDrawn() {
        says("WARMEST .. COLDEST .. DUE by WARMTH between each two");
        java.util.Random random = new java.util.Random(36);
        for (int run = 0; run < 200; run++) {
            int houses = 1 + random.nextInt(62);
            int most = 1 + random.nextInt(9);
            StringBuilder peace = new StringBuilder("sk99");
            for (int g = 0; g < 6; g++) peace.append(";gh").append(houses >> g & 1).append("f").append(random.nextInt(10));
            for (int m = 0; m < 5; m++) peace.append(";mn").append(random.nextInt(2 * most + 1));
            GloveHouses x = with(peace.toString(), "y:" + most + "-f/3");
            for (int i = 0; i < 25; i++) {
                x.meets(random.nextInt(6), random.nextInt(6));
                if (random.nextInt(3) == 0) x.days(1);
                if (random.nextInt(3) == 0) x.tear(random.nextInt(5));
            }
            int warmest = NONE;
            int coldest = NONE;
            int due = 0;
            for (int two = 0; two < 60; two++) {
                int warmth = two / 10 < two % 10 ? x.warmth(two / 10, two % 10) : NONE;
                if (warmth == NONE) continue;
                if (warmest == NONE || warmth > x.warmth(warmest / 10, warmest % 10)) warmest = two;
                if (coldest == NONE || warmth < x.warmth(coldest / 10, coldest % 10)) coldest = two;
                for (int m = 0; m < 5; m++) if (x.matter(m, 2) == NONE && warmth >= x.matter(m, 1)) due |= 1 << m;
            }
            due("WARMEST of run " + run, x.most(2), warmest);
            due("COLDEST of run " + run, x.most(3), coldest);
            due("DUE of run " + run, x.most(8), due);
        }
    }

    private static void freestStiffestHeaviest() {
        says("FREEST, STIFFEST (most STUFFED): the GLOVE; HEAVIEST: the MATTER (of several the lowest, all)");
        GloveHouses x = with("sk99;gf0s0;gh1f0s0;gf0s0");
        due("all alike", x.most(4), 0);
        due("all alike", x.most(5), 0);
        x.loosen(2);
        x.stuff(1, 1);
        due("the last", x.most(4), 2);
        due("the second", x.most(5), 1);
        x.loosen(1);
        x.stuff(2, 1);
        due("two alike", x.most(4), 1);
        due("two alike", x.most(5), 1);
        x.loosen(2);
        x.stuff(2, 9);
        due("the last", x.most(4), 2);
        due("the last", x.most(5), 2);
        GloveHouses six = with("g;g;g;g;g;gh1f9s9");
        due("the sixth", six.most(4), 5);
        due("the sixth", six.most(5), 5);
        says("HEAVIEST (6; NONE: there is no MATTER)");
        due("no MATTER", with("g;gh1").most(6), NONE);
        due("one of no WEIGHT", with("g;gh1;mw0").most(6), 0);
        due("all of no WEIGHT", with("g;gh1;mw0;mw0").most(6), 0);
        due("the fifth", with("g;gh1;m;m;m;m;mw4").most(6), 4);
        due("two alike", with("g;gh1;mw1;mw9;mw9").most(6), 1);
        GloveHouses signed = with("g;gh1;mw1n0;mw9n0;mw2");
        signed.meets(0, 1);
        due("SIGNED or not", signed.most(6), 1);
    }

    private static void boundAndDue() {
        says("BOUND: WEIGHT of all that is SIGNED.");
        GloveHouses x = with("sk9;g;g;gh1;gh1;mw9n0;mw0n0;mw4n0;mw9n5", "y:3");
        due("nothing", x.most(7), 0);
        due("as WARM as 0", x.most(8), 7);
        x.meets(0, 2);
        due("the first", x.most(7), 9);
        x.meets(1, 3);
        due("of no WEIGHT", x.most(7), 9);
        x.days(1);
        x.meets(0, 2);
        due("both", x.most(7), 13);
        says("DUE: MATTERS (bits) not SIGNED for which it is as WARM as it must be between some.");
        due("6 is warmer than 5", x.most(8), 8);
        x.days(1);
        due("still", x.most(8), 8);
        x.days(1);
        due("5 is as WARM as 5", x.most(8), 8);
        x.days(1);
        due("4 is not", x.most(8), 0);
        x.tear(0);
        due("torn up", x.most(8), 1);
        due("torn up", x.most(7), 4);
        due("no MATTER", with("g;gh1").most(8), 0);
        GloveHouses all = with("sk9;g;gh1;mn0;mn0;mn0;mn0;mn0", "y:1");
        due("all five", all.most(8), 31);
        all.meets(0, 1);
        due("but the SIGNED one", all.most(8), 30);
    }

    private static void allies() {
        says("ALLIES of a GLOVE: GLOVES (bits) of the other HOUSE that are AFTER the same. NONE: no such GLOVE.");
        GloveHouses x = with("ga3;g;ga3;gh1;gh1a3;gh1a3");
        int[] bits = {48, 8, 48, 2, 5, 5};
        for (int i = 0; i < 6; i++) due("allies(" + i + ")", x.allies(i), bits[i]);
        for (int no : new int[] {-1, 6, MIN, MAX}) due("allies(" + no + ")", x.allies(no), NONE);
        due("no PEACE", new GloveHouses().allies(0), NONE);
        due("none", with("ga1;ga1;gh1a2").allies(0), 0);
        due("none of its own HOUSE", with("ga1;ga1;gh1a2").allies(1), 0);
        due("all of five", with("gh1;g;g;g;g;g").allies(0), 62);
        due("the lowest", with("gh1;g;g;g;g;g").allies(5), 1);
        due("no such GLOVE among two", with("g;gh1").allies(2), NONE);
    }
}
