/** Each promise of the document by its number: ordinary inputs, the edges it names, wrong inputs. */
public final class PromiseTest extends Check {
    /*
     * GLOVES 0 and 1 of HOUSE 0, 2 and 3 of HOUSE 1. Without a LAW it RISES, at first:
     * 0-2: 14/2 + 2 - 3/3 - 0/4 = 8;  0-3: 12/2 - 1 - 4/4 = 4;
     * 1-2: 8/2 - 1 - 8/4 = 1;         1-3: 6/2 + 2 - 1 - 12/4 = 1.
     */
    private static final String FOUR = "sp3k50;gf8s0a1;gf2s8;gh1f6s0a1;gh1f4s4a0;mw5n6;mw2n20";

    public static void main(String[] args) {
        newObject();
        feeding();
        ending();
        peaceFaults();
        lawFaults();
        texts();
        rulesGlovesMatters();
        warmthAndLaws();
        worths();
        meeting();
        looseningAndStuffing();
        swallowingTearingGiving();
        daysAndSpite();
        yearsByDraws();
        statusAndUndo();
        logs();
        risesAndLater();
        soonest();
        matches();
        allKnow();
        seenFitsAsk();
        games();
        odds();
        sharesAndMost();
        images();
        counts();
        closes();
    }

    private static void newObject() {
        about = "promise 1";
        GloveHouses x = new GloveHouses();
        int[] want = {0, 0, 0, 0, NONE, 0, 0, 0, 1, 0, 0, 0, HIDDEN};
        for (int i = 0; i < want.length; i++) due("count(" + i + ")", x.count(i), want[i]);
        due("rule(0)", x.rule(0), NONE);
        due("glove(0, 0)", glove(x, 0, 0), HIDDEN);
        due("matter(0, 0)", x.matter(0, 0), -2);
        due("undo()", x.undo(), NONE);
        statusDue(x, 0, 0, 0, 0, 0);
    }

    private static void feeding() {
        about = "promise 2";
        GloveHouses x = new GloveHouses();
        due("nothing", x.feed(0, 0, 0, 0, 0), 0);
        due("zeros left out", x.feed(0x67000000, 0x00003b00, 0x00670000, 0x00000068, 0x00310000), 5);
        due("in order", x.fault(0), NONE);
        due("text", x.text(0), 2);
        for (int i = 1; i <= 12; i++) due("feed", x.feed(-1, -1, -1, -1, -1), 20 * i);
        due("beyond 240", x.feed(0, 0, 0, 0, 1), NONE);
        due("still 240", x.count(3), 240);
        due("nothing fits still", x.feed(0, 0, 0, 0, 0), 240);
        x.end(221);
        due("one too many", x.feed(-1, -1, -1, -1, -1), NONE);
        due("as it was", x.count(3), 221);
        due("just as many", x.feed(-1, -1, -1, -1, 0x00ffffff), 240);
    }

    private static void ending() {
        about = "promise 3";
        GloveHouses x = new GloveHouses();
        due("end(1) of nothing", x.end(1), false);
        due("end(0) of nothing", x.end(0), true);
        feed(x, "g;gh1;z");
        due("end(-1)", x.end(-1), false);
        due("end(8)", x.end(8), false);
        due("end(7)", x.end(7), true);
        due("the fault stays", x.fault(0), 6);
        due("end(5)", x.end(5), true);
        due("count(3)", x.count(3), 5);
        due("its first bytes", x.fault(0), NONE);
        due("no longer there", x.end(6), false);
        due("end(MIN)", x.end(Integer.MIN_VALUE), false);
    }

    private static void peaceFaults() {
        about = "promise 4";
        due("fault(-1)", new GloveHouses().fault(-1), -2);
        due("fault(2)", new GloveHouses().fault(2), -2);
        String[] fine = {"g;gh1", "gh1;g", "g;gh1;s", "s;g;m;gh1;m", FOUR, " g ; g h 1 ", "g;gh01", "gf9s9a3h1;gf0s0a0h0",
            "sp9k99;g;gh1;mw9n60", "sp0k0;g;gh1;mw0n0", "sk9p9;ga3s2f1h0;gh1", "g;g;g;g;g;gh1;m;m;m;m;m;s"};
        for (String t : fine) faultDue(0, t, NONE);
        faultDue(0, "", 0);
        faultDue(0, "   ", 3);
        faultDue(0, "g", 1);
        faultDue(0, "g  ", 3);
        faultDue(0, "gh1", 3);
        faultDue(0, "gh1;gh1", 7);
        faultDue(0, "g;g;m", 5);
        faultDue(0, "g;gh1;", 6);
        faultDue(0, "g;gh", 4);
        faultDue(0, ";g;gh1", 0);
        faultDue(0, "g;;gh1", 2);
        faultDue(0, "g;gh1;;", 6);
        faultDue(0, "y:1", 0);
        faultDue(0, "gp1", 1);
        faultDue(0, "sf1", 1);
        faultDue(0, "mh1", 1);
        faultDue(0, "g1", 1);
        faultDue(0, "gh;", 2);
        faultDue(0, "ghf1", 2);
        faultDue(0, "G;gh1", 0);
        faultDue(0, "g;gh1\u00e9", 5);
        faultDue(0, "g,gh1", 1);
        // a letter that was there, at it
        faultDue(0, "gf1f1", 3);
        faultDue(0, "gf1s1f", 5);
        faultDue(0, "sp1k1p1", 5);
        faultDue(0, "mn10w1n", 6);
        // a number out of bounds, at its last digit
        faultDue(0, "sp10", 3);
        faultDue(0, "gh2", 2);
        faultDue(0, "gh20", 3);
        faultDue(0, "ga4", 2);
        faultDue(0, "gf10", 3);
        faultDue(0, "gs10", 3);
        faultDue(0, "gs99", 3);
        faultDue(0, "mw10", 3);
        faultDue(0, "mn61;", 3);
        // a third digit itself, whatever stands ahead of it
        faultDue(0, "sk999", 4);
        faultDue(0, "sk000", 4);
        faultDue(0, "sp100", 4);
        faultDue(0, "gh2000", 4);
        // a blank ends a number
        faultDue(0, "sk1 0", 4);
        faultDue(0, "sk 10 ", 6);
        // too many of a kind, at it
        faultDue(0, "s;s", 2);
        faultDue(0, "sp1;g;gh1;s", 10);
        faultDue(0, "g;g;g;g;g;gh1;g", 14);
        faultDue(0, "m;m;m;m;m;m", 10);
    }

    private static void lawFaults() {
        about = "promise 4";
        String[] fine = {"y:1", "y:9999", "y:0000", "y:f", "y : f + s * 2 ", "y:f=1?2", "y:f<1&s>2|!a=1?2", "y:(f=1)?2",
            "y:!(f=1|s=2)&[f+1]*2>3?[1]", "y:f=1?2;y:3", "y:1;y:2", "y:!!!!!!f=1?1", "y:[[[[[[1]]]]]]", "y:((((((f=1))))))?1",
            "y:!(!([[1]]=1))?[[[[[[1]]]]]]", "y:f-s/w*a+p-d", "y:((f=1)|(s=1))&!(w=1)?1"};
        for (String t : fine) faultDue(1, t, NONE);
        faultDue(1, "", 0);
        faultDue(1, "y", 1);
        faultDue(1, "y:", 2);
        faultDue(1, "y:f=1", 5);
        faultDue(1, "y:f=1?", 6);
        faultDue(1, "y:1;", 4);
        faultDue(1, "y:1+", 4);
        faultDue(1, "y:(f=1", 6);
        faultDue(1, "y:[1", 4);
        faultDue(1, "y:(f=1)", 7);
        faultDue(1, "g;gh1", 0);
        faultDue(1, "y1", 1);
        faultDue(1, "y:z", 2);
        faultDue(1, "y:-1", 2);
        faultDue(1, "y:1?2", 3);
        faultDue(1, "y:f=1;y:2", 5);
        faultDue(1, "y:f=1|s;", 7);
        faultDue(1, "y:f=1?2?3", 7);
        faultDue(1, "y:f=1?(2)", 6);
        faultDue(1, "y:f=1?!2", 6);
        faultDue(1, "y:f=(1)?2", 4);
        faultDue(1, "y:f=s=w?2", 5);
        faultDue(1, "y:(f)", 4);
        faultDue(1, "y:(1+(f=1))?1", 5);
        faultDue(1, "y:[f=1]", 4);
        faultDue(1, "y:1&2", 3);
        faultDue(1, "y:f=1&?2", 6);
        faultDue(1, "y:f=1)?2", 5);
        faultDue(1, "y:1]", 3);
        faultDue(1, "y:fs", 3);
        faultDue(1, "y:1f", 3);
        faultDue(1, "y:12345", 6);
        faultDue(1, "y:00000", 6);
        faultDue(1, "y:12 34", 5);
        faultDue(1, "y:f==1?2", 4);
        faultDue(1, "y:f*/2", 4);
        faultDue(1, "y:1 ;", 5);
        // the seventh of ( [ ! within one another, at it
        faultDue(1, "y:!!!!!!!f=1?1", 8);
        faultDue(1, "y:[[[[[[[1", 8);
        faultDue(1, "y:(((((((f", 8);
        faultDue(1, "y:(!(!(![f", 8);
        faultDue(1, "y:f=[[[[[[1]]]]]]&[[[[[[1]]]]]]=1|[[[[[[1]]]]]]=1?1", NONE);
        faultDue(1, "y:f=[[[[[[[1", 10);
        faultDue(1, "y:f=1&!!!!!!!f", 12);
        faultDue(1, "y:f=1|!!!!!!!f", 12);
        faultDue(1, "y:f=1?[[[[[[[1", 12);
        faultDue(1, "y:!!!!!!f=1&!!!!!!!f", 18);
        faultDue(1, "y:!!!!!!f=1&!!!!!!s=1?1", NONE);
    }

    private static void texts() {
        about = "promise 5";
        GloveHouses x = new GloveHouses();
        due("text(0) of nothing", x.text(0), NONE);
        feed(x, "g;gh1;q");
        due("text(0) with a fault", x.text(0), NONE);
        due("text(1) with a fault", x.text(1), NONE);
        due("text(2)", x.text(2), NONE);
        due("text(-1)", x.text(-1), NONE);
        due("the tape stays", x.count(3), 7);
        x.end(5);
        due("text(0)", x.text(0), 2);
        due("the tape is empty", x.count(3), 0);
        for (int i = 0; i < 4; i++) {
            feed(x, "y:" + i);
            due("text(1)", x.text(1), i);
        }
        due("none holds yet", x.count(4), NONE);
        feed(x, "y:5");
        due("a fifth law", x.text(1), NONE);
        due("it stays on the tape", x.count(3), 3);
        due("law(2)", x.law(2), true);
        x.end(0);
        x.spite(7);
        x.meets(0, 1);
        x.meets(0, 1);
        x.seen(0, 1, 0, true);
        x.image();
        x.days(3);
        x.stuff(9, 9);
        feed(x, "gh1f1;gf2;g;sk7;m");
        due("another peace", x.text(0), 3);
        int[] want = {3, 1, 4, 0, 2, 0, 0, 0, 7, 0, 0, 0};
        for (int i = 0; i < want.length; i++) due("count(" + i + ")", x.count(i), want[i]);
        due("back()", x.back(), NONE);
        due("coins", x.rule(1), 7);
        due("usual pride", x.rule(0), 4);
        due("a secret of its own", x.glove(1, 5), 2);
        statusDue(x, 1, 0, 1, 0, 0);
        feed(x, "g");
        due("refused", x.text(0), NONE);
        due("the old peace stays", x.count(0), 3);
    }

    private static void rulesGlovesMatters() {
        GloveHouses x = with("gh1;g;m;mw0n0");
        about = "promise 6";
        due("usual pride", x.rule(0), 4);
        due("usual coins", x.rule(1), 20);
        due("rule(2)", x.rule(2), NONE);
        due("rule(-1)", x.rule(-1), NONE);
        x.swallow();
        due("pride now", x.rule(0), 3);
        due("coins now", x.rule(1), 16);
        about = "promise 7";
        int[] usual = {1, 4, 3, 0, 0, 1};
        for (int i = 0; i < 6; i++) due("glove(0, " + i + ")", glove(x, 0, i), usual[i]);
        due("glove(0, 6)", glove(x, 0, 6), HIDDEN);
        due("glove(0, -1)", glove(x, 0, -1), HIDDEN);
        due("glove(2, 0)", glove(x, 2, 0), HIDDEN);
        due("glove(-1, 0)", glove(x, -1, 0), HIDDEN);
        x.loosen(0);
        x.stuff(0, 8);
        x.meets(1, 0);
        int[] now = {1, 5, 8, 0, 1, 3};
        for (int i = 0; i < 6; i++) due("glove(0, " + i + ") now", glove(x, 0, i), now[i]);
        GloveHouses y = with("gh0f9s8a3;ga2s1f0h1");
        int[] told = {0, 9, 8, 3, 0, 1, 1, 0, 1, 2, 0, 2};
        for (int i = 0; i < 12; i++) due("glove as told", glove(y, i / 6, i % 6), told[i]);
        about = "promise 8";
        due("usual weight", x.matter(0, 0), 3);
        due("usual need", x.matter(0, 1), 10);
        due("not signed", x.matter(0, 2), NONE);
        due("weight", x.matter(1, 0), 0);
        due("need", x.matter(1, 1), 0);
        due("by whom", x.matter(1, 2), 1);
        due("matter(2, 0)", x.matter(2, 0), -2);
        due("matter(-1, 0)", x.matter(-1, 0), -2);
        due("matter(0, 3)", x.matter(0, 3), -2);
        due("matter(0, -1)", x.matter(0, -1), -2);
    }

    private static void warmthAndLaws() {
        about = "promise 9";
        GloveHouses x = with(FOUR);
        due("at first", x.warmth(0, 2), 0);
        x.meets(2, 0);
        due("warmth(0, 2)", x.warmth(0, 2), 8);
        due("warmth(2, 0)", x.warmth(2, 0), 8);
        due("warmth(0, 3)", x.warmth(0, 3), 0);
        due("of one house", x.warmth(0, 1), NONE);
        due("itself", x.warmth(0, 0), NONE);
        due("no such", x.warmth(0, 4), NONE);
        due("no such", x.warmth(-1, 2), NONE);
        about = "promise 10";
        GloveHouses y = with(FOUR);
        due("law(0) of none", y.law(0), false);
        due("law(NONE)", y.law(NONE), true);
        feed(y, "y:7");
        y.text(1);
        due("rises without it", y.rises(0, 3), 4);
        due("law(1)", y.law(1), false);
        due("law(-2)", y.law(-2), false);
        due("law(0)", y.law(0), true);
        due("law(0) again", y.law(0), true);
        due("rises by it", y.rises(0, 3), 7);
        due("law(4)", y.law(4), false);
        due("it still holds", y.count(4), 0);
        due("law(NONE)", y.law(NONE), true);
        due("rises without it", y.rises(0, 3), 4);
    }

    private static void worthDue(String law, int want) {
        due("rises by '" + law + "'", with(FOUR, law).rises(0, 3), want);
    }

    /** FREE 12, STUFFED 4, WARMTH 0, not AFTER the same, PRIDE 3, DAY 0. */
    private static void worths() {
        about = "promise 23";
        worthDue("y:f/2", 6);
        worthDue("y:s", 4);
        worthDue("y:w+a+d", 0);
        worthDue("y:p", 3);
        worthDue("y:99", 9);
        worthDue("y:1-99", -9);
        worthDue("y:2+3*2", 8);
        worthDue("y:[2+1]*2", 6);
        worthDue("y:9-3-2", 4);
        worthDue("y:9-[3-2]", 8);
        worthDue("y:36/3/4", 3);
        worthDue("y:7/2*2", 6);
        worthDue("y:[0-7]/2", -3);
        worthDue("y:5/0", 0);
        worthDue("y:5/a+1", 1);
        // held behind each sign, so 9999 * 9999 is 1,000,000
        worthDue("y:9999*9999/9999/50", 2);
        worthDue("y:9999*9999-9999*100-96", 4);
        worthDue("y:[0-9999]*9999/9999/50", -2);
        worthDue("y:9999*9999+9999*9999-9999*100-95", 5);
        // the first CLAUSE whose CONDITION holds
        worthDue("y:f=12?3;y:4", 3);
        worthDue("y:f=11?3;y:4", 4);
        worthDue("y:f=11?3;y:f=10?4", 0);
        worthDue("y:2;y:f=12?3", 2);
        worthDue("y:f<12?3;y:4", 4);
        worthDue("y:f<13?3;y:4", 3);
        worthDue("y:f>12?3;y:4", 4);
        worthDue("y:f>11?3;y:4", 3);
        worthDue("y:!f=12?3;y:4", 4);
        worthDue("y:!!f=12?3;y:4", 3);
        worthDue("y:f=12&s=3?3;y:4", 4);
        worthDue("y:f=1&s=4?3;y:4", 4);
        worthDue("y:f=12&s=4?3;y:4", 3);
        worthDue("y:f=12|s=3?3;y:4", 3);
        worthDue("y:f=1|s=3?3;y:4", 4);
        worthDue("y:f=12|s=4&s=3?3;y:4", 3);
        worthDue("y:(f=12|s=4)&s=3?3;y:4", 4);
        worthDue("y:!(f=1|s=3)?3;y:4", 3);
        worthDue("y:!f=1&s=3?3;y:4", 4);
        worthDue("y:!(f=12&s=4)?3;y:4", 4);
        worthDue("y:!(f=12|s=4)?3;y:4", 4);
        worthDue("y:!f<13?3;y:4", 4);
        worthDue("y:!f>11?3;y:4", 4);
        worthDue("y : f * 2 = 24 ? 3 ; y : 4", 3);
        due("rises of two after the same", with(FOUR, "y:a*5+1").rises(0, 2), 6);
        GloveHouses x = with(FOUR, "y:d+w*2");
        x.days(3);
        due("rises by the day", x.rises(0, 2), 3);
        x.meets(0, 2);
        due("rises by warmth", x.rises(0, 2), 9);
        due("no law: held, too", with("sp0;gf9s0;gh1f9s0").rises(0, 1), 9);
        due("no law: the least", with("sp9;gf0s9a1;gh1f0s9").rises(0, 1), -7);
        due("no law: cut", with("sp5;gf4s3a1;gh1f3s4").rises(0, 1), 1);
    }

    private static void meeting() {
        about = "promise 11";
        GloveHouses x = new GloveHouses();
        due("no peace", x.meets(0, 1), NONE);
        statusDue(x, 1, 0, 0, 0, 0);
        x = with("sp3k2;gf8s0a1;gf2s8;gh1f6s0a1;gh1f4s4a0;mw5n8;mw2n8;mw1n9");
        due("no such", x.meets(0, 4), NONE);
        due("no such", x.meets(-1, 2), NONE);
        statusDue(x, 2, 0, 0, 0, 0);
        due("of one house", x.meets(0, 1), NONE);
        due("itself", x.meets(2, 2), NONE);
        statusDue(x, 2, 2, 0, 0, 0);
        due("meets(2, 0)", x.meets(2, 0), 8);
        due("a coin", x.rule(1), 1);
        due("as warm as it must be", x.matter(0, 2), 2);
        due("the lowest alone", x.matter(1, 2), NONE);
        due("each knows", x.glove(0, 5), 5);
        due("each knows", x.glove(2, 5), 5);
        due("met", x.meets(1, 2), NONE);
        due("met", x.meets(0, 3), NONE);
        due("met, the first of several", x.meets(0, 1), NONE);
        statusDue(x, 2, 3, 2, 0, 0);
        due("meets(1, 3)", x.meets(1, 3), 1);
        due("not so warm", x.matter(1, 2), NONE);
        due("met ahead of coins", x.meets(1, 3), NONE);
        statusDue(x, 2, 3, 3, 0, 0);
        x.days(1);
        x.stuff(0, 1);
        due("too few coins", x.meets(0, 2), NONE);
        statusDue(x, 2, 3, 3, 1, 0);
        x.give(3);
        due("warmer", x.meets(0, 3), 4);
        due("what the other knew", x.glove(3, 5), 15);
        due("what the other knew", x.glove(0, 5), 15);
        due("nobody else", x.glove(1, 5), 10);
        due("the next matter", x.matter(1, 2), NONE);
        due("meets(2, 1)", x.meets(2, 1), 1);
        GloveHouses y = with("sk99;g;gh1", "y:9");
        int warm = 0;
        for (int i = 0; i < 12; i++) {
            warm = y.meets(0, 1);
            y.days(1);
        }
        due("99 at most", warm, 99);
        GloveHouses z = with("g;gh1;mn0", "y:w-3");
        due("0 at least", z.meets(0, 1), 0);
        due("as warm as 0", z.matter(0, 2), 1);
    }

    private static void looseningAndStuffing() {
        about = "promise 12";
        due("no peace", new GloveHouses().loosen(0), NONE);
        GloveHouses x = with("sk8;gf8;gh1f9");
        due("no such", x.loosen(2), NONE);
        due("no such", x.loosen(-1), NONE);
        due("nine", x.loosen(1), NONE);
        due("loosen(0)", x.loosen(0), 9);
        due("three coins", x.rule(1), 5);
        due("as it is now", x.glove(0, 1), 9);
        due("nine now", x.loosen(0), NONE);
        statusDue(x, 2, 0, 2, 0, 0);
        x = with("sk5;gf1;gh1f9");
        due("loosen(0)", x.loosen(0), 2);
        due("too few", x.loosen(0), NONE);
        due("nine ahead of coins", x.loosen(1), NONE);
        statusDue(x, 0, 0, 1, 1, 0);
        x = with("sk3;gf1;gh1f9");
        due("just as many", x.loosen(0), 2);
        due("none left", x.rule(1), 0);
        about = "promise 13";
        due("no peace", new GloveHouses().stuff(0, 0), NONE);
        x = with("sk5;gs3;gh1s9");
        due("no such", x.stuff(2, 10), NONE);
        due("no such", x.stuff(-1, 1), NONE);
        due("out of bounds", x.stuff(0, 10), NONE);
        due("out of bounds", x.stuff(0, -1), NONE);
        due("it is so", x.stuff(0, 3), NONE);
        statusDue(x, 2, 2, 1, 0, 0);
        due("stuff(0, 9)", x.stuff(0, 9), 3);
        due("two coins", x.rule(1), 3);
        due("as it is now", x.glove(0, 2), 9);
        due("stuff(0, 0)", x.stuff(0, 0), 9);
        due("it is so ahead of coins", x.stuff(0, 0), NONE);
        due("too few", x.stuff(0, 1), NONE);
        statusDue(x, 2, 2, 2, 1, 0);
    }

    private static void swallowingTearingGiving() {
        about = "promise 14";
        due("no peace", new GloveHouses().swallow(), NONE);
        GloveHouses x = with("sp1k4;g;gh1");
        due("swallow()", x.swallow(), 0);
        due("four coins", x.rule(1), 0);
        due("none ahead of coins", x.swallow(), NONE);
        statusDue(x, 0, 0, 1, 0, 0);
        x = with("sp1k3;g;gh1");
        due("too few", x.swallow(), NONE);
        statusDue(x, 0, 0, 0, 1, 0);
        about = "promise 15";
        due("no peace", new GloveHouses().tear(0), NONE);
        x = with("sp8k9;g;gh1;mn0;mn0;m", "y:1");
        due("no such", x.tear(3), NONE);
        due("no such", x.tear(-1), NONE);
        due("not signed", x.tear(0), NONE);
        statusDue(x, 2, 0, 1, 0, 0);
        x.meets(0, 1);
        x.days(1);
        x.meets(0, 1);
        due("tear(0)", x.tear(0), 9);
        due("for nothing", x.rule(1), 9);
        due("not signed now", x.matter(0, 2), NONE);
        due("nine at most", x.tear(1), 9);
        due("not signed", x.tear(1), NONE);
        statusDue(x, 2, 0, 2, 0, 0);
        about = "promise 16";
        due("no peace", new GloveHouses().give(1), NONE);
        x = with("sk99;g;gh1");
        due("give(0)", x.give(0), NONE);
        due("give(51)", x.give(51), NONE);
        due("give(-1)", x.give(-1), NONE);
        due("give(MAX)", x.give(Integer.MAX_VALUE), NONE);
        statusDue(x, 0, 4, 0, 0, 0);
        for (int i = 1; i <= 18; i++) due("give(50)", x.give(50), 99 + 50 * i);
        due("above 999", x.give(1), NONE);
        statusDue(x, 0, 5, 0, 0, 0);
        x.undo();
        x.give(48);
        due("give(1)", x.give(1), 998);
        x.days(1);
        due("999 at most by a day", x.rule(1), 999);
    }

    private static void daysAndSpite() {
        about = "promise 17";
        due("no peace", new GloveHouses().days(1), NONE);
        GloveHouses x = with(FOUR);
        due("days(0)", x.days(0), NONE);
        due("days(61)", x.days(61), NONE);
        due("days(-1)", x.days(-1), NONE);
        statusDue(x, 0, 3, 0, 0, 0);
        x.meets(0, 2);
        x.meets(1, 3);
        due("days(1)", x.days(1), 1);
        due("two coins", x.rule(1), 50);
        due("they met", x.warmth(0, 2), 8);
        due("they met", x.warmth(1, 3), 1);
        due("nobody has met", x.most(0), 0);
        x.meets(0, 3);
        x.meets(1, 2);
        due("days(1)", x.days(1), 2);
        due("each met, but not the other", x.warmth(0, 2), 7);
        due("0 at least", x.warmth(1, 3), 0);
        due("days(5)", x.days(5), 7);
        due("cold", x.warmth(0, 2), 2);
        for (int i = 0; i < 16; i++) x.days(60);
        due("the day", x.count(5), 967);
        due("beyond the last", x.days(33), NONE);
        due("out of bounds ahead of it", x.days(61), NONE);
        statusDue(x, 0, 4, 0, 0, 1);
        due("nothing went by", x.count(5), 967);
        due("the last", x.days(32), 999);
        due("beyond the last", x.days(1), NONE);
        due("coins", x.rule(1), 999);
        about = "promise 18";
        GloveHouses y = new GloveHouses();
        due("spite(1)", y.spite(1), false);
        due("spite(-1)", y.spite(-1), false);
        due("spite(10)", y.spite(10), false);
        due("spite(9)", y.spite(9), true);
        due("it is so", y.count(8), 9);
        due("spite(9) again", y.spite(9), false);
        due("spite(0)", y.spite(0), true);
        due("spite(1)", y.spite(1), true);
    }

    private static void yearsByDraws() {
        about = "promise 19";
        due("no peace", new GloveHouses().years(1, 0), NONE);
        GloveHouses x = with("sp0k9;g;gh1;mn1", "y:3");
        due("years(0)", x.years(0, 1), NONE);
        due("years(61)", x.years(61, 1), NONE);
        statusDue(x, 0, 0, 0, 0, 0);
        /*
         * x from seed 1 is 7806831264735756412, 9396908728118811419, 11960119808228829710,
         * 7062582979898595269, 14673421054488193520; so the draws of 2 are 0, 1 (they meet)
         * and 0, 0 (itself); the draw of 10 is 4.
         */
        x.spite(5);
        due("a year of a day", x.years(1, 1), 1);
        due("they met", x.log(0, 0), 2);
        due("warmth", x.warmth(0, 1), 3);
        due("signed", x.matter(0, 2), 1);
        due("that day", x.log(0, 1), 1);
        due("for nothing", x.rule(1), 11);
        due("spite", x.rule(0), 1);
        due("one act", x.count(11), 1);
        due("undone", x.undo(), 0);
        due("as it was", x.warmth(0, 1), 0);
        x.spite(4);
        x.years(1, 1);
        due("not below it", x.rule(0), 0);
        x.undo();
        x.spite(0);
        x.meets(0, 1);
        x.years(1, 1);
        due("met already", x.warmth(0, 1), 3);
        due("years(60)", x.years(60, -5), 61);
        due("forty acts", x.count(11), 40);
        x.spite(9);
        x.years(60, 99);
        due("nine at most", x.rule(0), 9);
        for (int i = 0; i < 14; i++) x.days(60);
        due("the day", x.count(5), 961);
        due("beyond", x.years(39, 1), NONE);
        due("no status", x.status(4), 0);
        due("the last", x.years(38, 1), 999);
        due("beyond", x.years(1, 1), NONE);
        // The draws go on from day to day.
        GloveHouses y = with(FOUR);
        y.years(5, 123456789L);
        int[] want = drawnFive(123456789L);
        for (int i = 0; i < 5; i++) due("met in log " + i, y.log(i, 0), want[4 - i]);
    }

    /** How many meet on each of five days of FOUR, drawn apart from the class. */
    private static int[] drawnFive(long seed) {
        int[] met = new int[5];
        long x = seed;
        for (int day = 0; day < 5; day++) {
            boolean[] has = new boolean[4];
            for (int k = 0; k < 2; k++) {
                x = x * 6364136223846793005L + 1442695040888963407L;
                int a = (int) ((x >>> 33) % 4);
                x = x * 6364136223846793005L + 1442695040888963407L;
                int b = (int) ((x >>> 33) % 4);
                if (a / 2 != b / 2 && !has[a] && !has[b]) {
                    has[a] = true;
                    has[b] = true;
                    met[day] += 2;
                }
            }
            x = x * 6364136223846793005L + 1442695040888963407L;
        }
        return met;
    }

    private static void statusAndUndo() {
        about = "promise 20";
        GloveHouses x = with(FOUR);
        due("status(-1)", x.status(-1), NONE);
        due("status(5)", x.status(5), NONE);
        x.tear(5);
        x.give(0);
        x.tear(0);
        statusDue(x, 1, 1, 1, 0, 0);
        about = "promise 21";
        due("undo()", x.undo(), NONE);
        x.meets(0, 2);
        x.loosen(1);
        x.stuff(1, 0);
        x.swallow();
        x.tear(0);
        x.give(7);
        x.days(2);
        due("acts", x.count(11), 8);
        due("a day undone", x.undo(), 7);
        due("the day", x.count(5), 1);
        due("the log", x.count(10), 1);
        due("another", x.undo(), 6);
        due("who met is back", x.most(0), 5);
        due("the log", x.log(0, 0), NONE);
        due("give undone", x.undo(), 5);
        due("coins", x.rule(1), 50 - 1 - 3 - 2 - 4);
        due("tear undone", x.undo(), 4);
        due("signed again", x.matter(0, 2), 2);
        due("pride", x.rule(0), 2);
        due("swallow undone", x.undo(), 3);
        due("pride", x.rule(0), 3);
        due("stuff undone", x.undo(), 2);
        due("stuffed", x.glove(1, 2), 8);
        due("loosen undone", x.undo(), 1);
        due("free", x.glove(1, 1), 2);
        due("meets undone", x.undo(), 0);
        due("not signed", x.matter(0, 2), NONE);
        due("cold", x.warmth(0, 2), 0);
        due("knows its own", x.glove(0, 5), 1);
        due("coins", x.rule(1), 50);
        due("none left", x.undo(), NONE);
        statusDue(x, 1, 1, 1, 0, 0);
        x.days(60);
        due("the latest forty", x.count(11), 40);
        due("undo()", x.undo(), 39);
        due("refused acts are none", x.meets(0, 0), NONE);
        for (int i = 38; i >= 0; i--) due("undo()", x.undo(), i);
        due("the day", x.count(5), 20);
        due("none left", x.undo(), NONE);
    }

    private static void logs() {
        about = "promise 22";
        GloveHouses x = with("sk9;g;g;gh1;mn2;mn2", "y:5-d");
        due("none yet", x.log(0, 0), NONE);
        x.meets(0, 2);
        x.tear(0);
        due("not told yet", x.log(0, 1), NONE);
        x.days(1);
        due("met", x.log(0, 0), 2);
        due("torn up since, too", x.log(0, 1), 1);
        due("warmth", x.log(0, 2), 5);
        x.meets(1, 2);
        x.days(1);
        due("met", x.log(0, 0), 2);
        due("signed that day alone", x.log(0, 1), 1);
        due("warmth behind the day", x.log(0, 2), 8);
        due("the one ahead", x.log(1, 2), 5);
        due("log(2, 0)", x.log(2, 0), NONE);
        due("log(-1, 0)", x.log(-1, 0), NONE);
        due("log(0, 3)", x.log(0, 3), NONE);
        due("log(0, -1)", x.log(0, -1), NONE);
        GloveHouses two = with("g;g;gh1;gh1;m;mn3;mn3;mn3", "y:3");
        two.meets(0, 3);
        two.meets(1, 2);
        two.days(1);
        due("two signed that day", two.log(0, 1), 6);
        x.days(58);
        due("sixty", x.count(10), 60);
        due("the oldest", x.log(59, 2), 5);
        due("log(60, 0)", x.log(60, 0), NONE);
        x.days(1);
        due("sixty at most", x.count(10), 60);
        due("the oldest now", x.log(59, 2), 8);
        x.undo();
        due("back by undo", x.log(59, 2), 5);
        for (int i = 0; i < 3; i++) x.days(60);
        x.days(39);
        due("far behind", x.log(59, 2), 0);
        due("nobody met", x.log(0, 0), 0);
    }

    private static void risesAndLater() {
        about = "promise 23";
        GloveHouses x = with(FOUR);
        due("rises(0, 2)", x.rises(0, 2), 8);
        due("rises(0, 3)", x.rises(0, 3), 4);
        due("rises(2, 1)", x.rises(2, 1), 1);
        due("rises(1, 3)", x.rises(1, 3), 1);
        due("of one house", x.rises(0, 1), HIDDEN);
        due("no such", x.rises(0, 4), HIDDEN);
        due("no such", x.rises(-1, 3), HIDDEN);
        due("no peace", new GloveHouses().rises(0, 1), HIDDEN);
        x.loosen(1);
        x.loosen(1);
        x.stuff(3, 0);
        x.swallow();
        due("as it is now", x.rises(1, 3), 4 + 2 - 0 - 2);
        x.meets(0, 2);
        due("whoever met", x.rises(0, 2), 9);
        about = "promise 24";
        x = with(FOUR);
        due("later(0, 3, 0)", x.later(0, 3, 0), 0);
        due("later(0, 3, 1)", x.later(0, 3, 1), 4);
        due("later(3, 0, 7)", x.later(3, 0, 7), 28);
        due("later(0, 2, 60)", x.later(0, 2, 60), 99);
        due("later(0, 2, 61)", x.later(0, 2, 61), NONE);
        due("later(0, 2, -1)", x.later(0, 2, -1), NONE);
        due("of one house", x.later(0, 1, 1), NONE);
        due("no such", x.later(0, 4, 1), NONE);
        x.meets(0, 3);
        due("from as it is now", x.later(0, 3, 2), 12);
        due("apart", x.warmth(0, 3), 4);
        GloveHouses y = with(FOUR, "y:w<5?d+1;y:0-1");
        due("a day behind each", y.later(0, 2, 2), 3);
        due("a day behind each", y.later(0, 2, 3), 6);
        due("by the warmth so far", y.later(0, 2, 4), 5);
        due("by the warmth so far", y.later(0, 2, 5), 4);
        for (int i = 0; i < 17; i++) y.days(i < 16 ? 60 : 39);
        feed(y, "y:d-998");
        y.law(y.text(1));
        due("no day behind the last", y.later(0, 2, 5), 5);
    }

    private static void soonest() {
        about = "promise 25";
        GloveHouses x = with(FOUR + ";mn0;mn60;mn9");
        due("need 6", x.soonest(0, 0), 2);
        due("need 6", x.soonest(0, 1), 1);
        due("need 20", x.soonest(1, 0), 2);
        due("need 20", x.soonest(1, 1), 3);
        due("they are", x.soonest(2, 0), 2);
        due("they are", x.soonest(2, 1), 0);
        due("soonest(5, 0)", x.soonest(5, 0), NONE);
        due("soonest(-1, 0)", x.soonest(-1, 0), NONE);
        due("soonest(0, 2)", x.soonest(0, 2), NONE);
        due("soonest(0, -1)", x.soonest(0, -1), NONE);
        due("no peace", new GloveHouses().soonest(0, 0), NONE);
        GloveHouses y = with("gf0s9;gh1;gh1f9s0;mn60;mn59;mn58", "y:1");
        due("just within sixty", y.soonest(0, 1), 60);
        due("of several the least", y.soonest(0, 0), 1);
        y.meets(0, 2);
        due("warmer by one", y.soonest(0, 1), 59);
        due("who is warmer", y.soonest(0, 0), 2);
        y = with("g;gh1;mn60", "y:d=0?0;y:1");
        due("by none", y.soonest(0, 0), NONE);
        due("by none", y.soonest(0, 1), NONE);
        y = with("gh1f1;gf1;gf2;mn2", "y:f");
        due("the lower one first", y.soonest(0, 0), 1);
    }

    private static void matches() {
        about = "promise 26";
        due("no peace", new GloveHouses().pairs(0), HIDDEN);
        GloveHouses x = with(FOUR);
        due("pairs(-1)", x.pairs(-1), HIDDEN);
        due("pairs(2)", x.pairs(2), HIDDEN);
        due("the row", x.pairs(0), 23);
        due("how much", x.pairs(1), 9);
        x.meets(1, 2);
        due("who did not meet", x.pairs(0), 3);
        due("how much", x.pairs(1), 4);
        x.meets(0, 3);
        due("nobody", x.pairs(0), NONE);
        due("how much", x.pairs(1), 0);
        due("nobody by 9", with(FOUR, "y:0-1").pairs(0), 99);
        due("nothing to gain", with(FOUR, "y:0-1").pairs(1), 0);
        due("of several the least row", with(FOUR, "y:0").pairs(0), 23);
        due("of several the least row", with(FOUR, "y:5").pairs(0), 23);
        GloveHouses y = with("g;g;g;gh1", "y:2");
        due("the first of three", y.pairs(0), 399);
        y.meets(1, 3);
        due("nobody of the other house", y.pairs(0), 99);
        y = with("gh1;gh1;g;gf5", "y:f>8?3;y:1");
        due("a row from 0", y.pairs(0), 1);
        due("how much", y.pairs(1), 4);
        y = with("g;gh1;gh1f9;gh1;gh1;gh1");
        due("the best of five", y.pairs(0), 2);
        y = with("sk0;gf9;gf8;gf1;gh1f9;gh1f1;gh1f8", "y:f-9");
        due("the best three, coins or not", y.pairs(1), 9 + 7);
    }

    private static void allKnow() {
        about = "promise 27";
        due("no peace", new GloveHouses().allKnow(), NONE);
        GloveHouses x = with("g;gh1", "y:1");
        due("one day", x.allKnow(), 1);
        x.meets(0, 1);
        due("they know", x.allKnow(), 0);
        due("the same two for ever", with(FOUR).allKnow(), NONE);
        /* By 9 with 1, by 9 with 2, then by 1 with 1, which has been cooling. */
        due("turn by turn", with("g;gh1;gh1", "y:9-w").allKnow(), 3);
        due("cold ones never", with("g;gh1", "y:0-1").allKnow(), NONE);
        GloveHouses y = with("g;gh1;gh1", "y:9-w");
        y.meets(0, 2);
        due("from this day on, though it met", y.allKnow(), 3);
        due("apart", y.count(5), 0);
        due("apart", y.warmth(0, 1), 0);
        due("just within thirty", with("g;gh1", "y:d<29?0-1;y:1").allKnow(), 30);
        due("not within thirty", with("g;gh1", "y:d<30?0-1;y:1").allKnow(), NONE);
        GloveHouses z = with("sk0;g;gh1", "y:1");
        due("coins or not", z.allKnow(), 1);
        z = with("g;gh1;gh1", "y:9-w");
        for (int i = 0; i < 17; i++) z.days(i < 16 ? 60 : 38);
        z.meets(0, 2);
        due("ahead of the last", z.allKnow(), NONE);
        z.days(1);
        due("no day goes by behind the last", z.allKnow(), NONE);
        z = with("g;gh1", "y:1");
        for (int i = 0; i < 17; i++) z.days(i < 16 ? 60 : 39);
        due("the last itself is one", z.allKnow(), 1);
    }

    private static void seenFitsAsk() {
        about = "promise 28";
        due("no peace", new GloveHouses().seen(0, 1, 0, true), NONE);
        GloveHouses x = with(FOUR);
        due("of one house", x.seen(0, 1, 0, true), NONE);
        due("no such", x.seen(0, 4, 0, true), NONE);
        due("no such", x.seen(-1, 2, 0, true), NONE);
        due("v 10", x.seen(0, 2, 10, true), NONE);
        due("v -10", x.seen(0, 2, -10, true), NONE);
        due("seen", x.seen(0, 2, -9, true), 1);
        for (int i = 2; i <= 10; i++) due("seen", x.seen(3, 1, 9, false), i);
        due("there are ten", x.seen(0, 2, 0, true), NONE);
        due("ten", x.count(9), 10);
        about = "promise 29";
        x = with(FOUR);
        due("all fit", x.fits(0, NONE), 10);
        due("the first", x.fits(0, 0), 0);
        due("the last", x.fits(0, 9), 9);
        due("fits(0, 10)", x.fits(0, 10), NONE);
        due("fits(0, -2)", x.fits(0, -2), NONE);
        due("no such", x.fits(4, NONE), NONE);
        due("no such", x.fits(-1, 0), NONE);
        due("no peace", new GloveHouses().fits(0, NONE), NONE);
        x.seen(0, 2, 6, true);       // (f + 6) / 2 + 2 - 1 >= 6: f 4 .. 9
        due("six or more", x.fits(0, NONE), 6);
        due("the first", x.fits(0, 0), 4);
        x.seen(3, 0, 4, false);      // (f + 4) / 2 - 1 - 1 < 4: f 0 .. 7
        due("both", x.fits(0, NONE), 4);
        due("the last", x.fits(0, 3), 7);
        due("no such one", x.fits(0, 4), NONE);
        due("of the other", x.fits(2, NONE), 8);  // (8 + f) / 2 + 2 - 1 >= 6: f 2 .. 9
        due("of the other", x.fits(2, 0), 2);
        due("of the other, not seen so", x.fits(3, NONE), 4); // (8 + f) / 2 - 2 < 4: f 0 .. 3
        due("not seen", x.fits(1, NONE), 10);
        x.loosen(2);
        x.stuff(2, 9);
        x.swallow();
        x.days(5);
        due("all as told", x.fits(0, NONE), 4);
        about = "promise 30";
        due("no such", x.ask(4, 0), NONE);
        due("no such", x.ask(-1, 0), NONE);
        due("v 10", x.ask(0, 10), NONE);
        due("v -10", x.ask(0, -10), NONE);
        due("no peace", new GloveHouses().ask(0, 0), NONE);
        /* f 4 .. 7: with 2 it rises by 6 6 7 7, with 3 by 2 2 3 3. */
        due("ask(0, 7)", x.ask(0, 7), 2);
        due("ask(0, 3)", x.ask(0, 3), 3);
        due("of several the lowest", x.ask(0, 9), 2);
        x.seen(0, 2, 9, true);
        due("nothing fits", x.fits(0, NONE), 0);
        due("fits(0, 0)", x.fits(0, 0), NONE);
        due("nothing fits", x.ask(0, 0), NONE);
        /* f 0 .. 9 of 3: with 0 it rises by 2 2 3 3 4 4 5 5 6 6, with 1 by -1 .. 3 and 2 of AFTER. */
        GloveHouses y = with(FOUR);
        due("ask(3, 4)", y.ask(3, 4), 0);
        due("ask(3, 1)", y.ask(3, 1), 1);
        y = with("g;gh1;gh1", "y:d*9+w*9+f");
        y.meets(0, 1);
        y.days(1);
        y.seen(0, 1, 5, true);
        due("by the law, at warmth 0, on day 0", y.fits(0, NONE), 9);
    }

    private static void games() {
        about = "promise 31";
        due("no peace", new GloveHouses().game(0, 0, 0), HIDDEN);
        GloveHouses x = with(FOUR);
        int[] first = {8 - 2, 4 - 2, 1, 1};
        int[] second = {8 - 2, 4 - 1, 1 - 2, 1 - 1};
        for (int i = 0; i < 4; i++) {
            due("house 0", x.game(i / 2, i % 2, 0), first[i]);
            due("house 1", x.game(i / 2, i % 2, 1), second[i]);
        }
        due("not there", x.game(2, 0, 0), -20);
        due("the other has", x.game(2, 0, 1), 0);
        due("the other has", x.game(0, 2, 0), 0);
        due("not there", x.game(0, 4, 1), -20);
        due("neither", x.game(4, 2, 0), -20);
        due("neither", x.game(4, 2, 1), -20);
        int[][] out = {{5, 0, 0}, {-1, 0, 0}, {0, 5, 0}, {0, -1, 0}, {0, 0, 2}, {0, 0, -1}};
        for (int[] o : out) due("out of bounds", x.game(o[0], o[1], o[2]), HIDDEN);
        due("by how many are lower", with("gh1;gh1f9s0;gf9;gf1").game(1, 1, 0), (9 + 1) / 2 + 2 - 1 - 0 - 0);
        about = "promise 32";
        due("no peace", new GloveHouses().sure(0), HIDDEN);
        due("sure(2)", x.sure(2), HIDDEN);
        due("sure(-1)", x.sure(-1), HIDDEN);
        due("of house 0", x.sure(0), 2);
        due("of house 1", x.sure(1), 0);
        due("all below", with("gf9;gh1f9", "y:0-9").sure(1), -12);
        about = "promise 33";
        due("no peace", new GloveHouses().rests(NONE), NONE);
        due("how many", x.rests(NONE), 1);
        due("the first", x.rests(0), 0);
        due("rests(1)", x.rests(1), NONE);
        due("rests(-2)", x.rests(-2), NONE);
        GloveHouses y = with(FOUR, "y:0");
        /* Each has less by how free its own is: 0 or 1, 2 or 3 by its own alone. */
        due("the stiffer ones", y.rests(NONE), 1);
        due("the stiffer ones", y.rests(0), 11);
        y = with("gf0;gf0;gh1f0;gh1f0", "y:1");
        due("all", y.rests(NONE), 4);
        due("rising", y.rests(2), 10);
        due("rising", y.rests(3), 11);
        y = with("ga1f0;ga2f0;gh1a1f0;gh1a2f0", "y:a");
        due("two", y.rests(NONE), 2);
        due("the second", y.rests(1), 11);
    }

    private static void odds() {
        about = "promise 34";
        due("no peace", new GloveHouses().odds(0, 0, 1, 1, 0), NONE);
        GloveHouses x = with(FOUR + ";mn0;mn4;mn12");
        due("no such matter", x.odds(5, 0, 2, 1, 0), NONE);
        due("no such matter", x.odds(-1, 0, 2, 1, 0), NONE);
        due("no such glove", x.odds(0, 0, 4, 1, 0), NONE);
        due("of one house", x.odds(0, 0, 1, 1, 0), NONE);
        due("n 9", x.odds(0, 0, 2, 9, 0), NONE);
        due("n -1", x.odds(0, 0, 2, -1, 0), NONE);
        due("chance 101", x.odds(0, 0, 2, 1, 101), NONE);
        due("chance -1", x.odds(0, 0, 2, 1, -1), NONE);
        due("no meeting", x.odds(2, 0, 2, 0, 0), 0);
        due("need 0", x.odds(2, 0, 2, 1, 100), 1000000000);
        due("no quarrel", x.odds(0, 0, 2, 1, 0), 1000000000);
        due("but quarrels", x.odds(0, 0, 2, 8, 100), 0);
        due("one in four", x.odds(0, 0, 2, 1, 25), 750000000);
        due("one of two", x.odds(0, 2, 0, 2, 25), 937500000);
        /* By 4 each: 12 needs three running, or 4 8 4 8 12 and the like, within so many. */
        due("three running", x.odds(4, 0, 3, 3, 10), 729000000);
        due("of four", x.odds(4, 0, 3, 4, 10), 729000000 + 72900000);
        x.meets(0, 3);
        due("half, cut, is not enough", x.odds(3, 0, 3, 1, 100), 0);
        x.days(1);
        x.meets(0, 3);
        due("half is enough", x.odds(3, 0, 3, 1, 100), 1000000000);
        due("behind one of these", x.odds(3, 0, 3, 2, 100), 1000000000);
        due("apart", x.warmth(0, 3), 8);
        GloveHouses y = with("g;gh1;mn1", "y:d=4?9;y:0");
        due("a day behind each", y.odds(0, 0, 1, 5, 0), 1000000000);
        due("not yet", y.odds(0, 0, 1, 4, 0), 0);
        // 10^9 times .33 five times over is 3913539.3, cut at the fifth.
        due("cut from what quarrels", with("g;gh1;mn1", "y:9").odds(0, 0, 1, 5, 33), 1000000000 - 3913539);
        /* It can be warm behind the sixth alone: each of the 32 parts ahead of it is cut by itself. */
        long due = 0;
        for (int path = 0; path < 32; path++) {
            long parts = 1000000000L;
            for (int k = 0; k < 5; k++) {
                long q = parts * 37 / 100;
                parts = (path >> k & 1) == 1 ? q : parts - q;
            }
            due += parts - parts * 37 / 100;
        }
        due("the parts of the sixth", with("g;gh1;mn5", "y:d<5?0;y:9").odds(0, 0, 1, 6, 37), due);
    }

    private static void sharesAndMost() {
        about = "promise 35";
        due("no peace", new GloveHouses().shares(0, 1), NONE);
        GloveHouses x = with(FOUR);
        due("shares(0, 10)", x.shares(0, 10), 5);
        due("shares(1, 999)", x.shares(1, 999), 499);
        due("shares(0, 0)", x.shares(0, 0), 0);
        due("shares(0, 1000)", x.shares(0, 1000), NONE);
        due("shares(0, -1)", x.shares(0, -1), NONE);
        due("shares(2, 1)", x.shares(2, 1), NONE);
        due("shares(-1, 1)", x.shares(-1, 1), NONE);
        x.loosen(0);
        due("as it is now", x.shares(0, 100), 52);
        due("none is", with("gf0;gh1f0").shares(0, 99), 0);
        about = "promise 36";
        due("no peace", new GloveHouses().most(0), NONE);
        x = with(FOUR + ";mw5n0");
        due("most(9)", x.most(9), NONE);
        due("most(-1)", x.most(-1), NONE);
        int[] first = {0, 0, 2, 2, 0, 1, 0, 0, 4};
        for (int i = 0; i < 9; i++) due("most(" + i + ") at first", x.most(i), first[i]);
        x.meets(3, 0);
        x.meets(2, 1);
        due("met", x.most(0), 15);
        x.days(1);
        x.meets(0, 3);
        x.loosen(1);
        x.stuff(0, 9);
        due("met", x.most(0), 9);
        due("signed", x.most(1), 5);
        due("warmest", x.most(2), 3);
        due("coldest", x.most(3), 2);
        due("freest", x.most(4), 0);
        due("stiffest", x.most(5), 0);
        due("heaviest, of several the lowest", x.most(6), 0);
        due("bound", x.most(7), 10);
        due("due", x.most(8), 0);
        x.tear(0);
        due("due, once torn up", x.most(8), 1);
        due("bound", x.most(7), 5);
        due("no matter", with("g;gh1").most(6), NONE);
        due("heaviest", with("g;gh1;mw0;mw1;mw1").most(6), 1);
        due("weighing nothing", with("g;gh1;mw0").most(6), 0);
        due("freest, of several the lowest", with("gf1;gf7;gh1f7").most(4), 1);
        due("coldest", coldest(), 13);
        x = with("sk99;g;g;g;gh1;gh1;gh1;mn6;mn5", "y:5");
        x.meets(2, 4);
        x.meets(1, 5);
        x.days(1);
        x.meets(5, 2);
        x.meets(1, 4);
        x.tear(1);
        due("of several warmest the least", x.most(2), 14);
        due("due for one of two", x.most(8), 2);
        x.days(1);
        x.meets(1, 4);
        due("warmest", x.most(2), 14);
        x.days(1);
        x.meets(2, 5);
        x.days(1);
        x.meets(2, 5);
        due("warmest", x.most(2), 25);
        due("coldest", x.most(3), 3);
        about = "promise 37";
        x = with("ga1;ga0;gh1a1;gh1;gh1a1;ga1");
        due("allies(0)", x.allies(0), 20);
        due("allies(1)", x.allies(1), 8);
        due("allies(4)", x.allies(4), 33);
        due("allies(6)", x.allies(6), NONE);
        due("allies(-1)", x.allies(-1), NONE);
        due("none", with("ga3;gh1a2").allies(0), 0);
        due("no peace", new GloveHouses().allies(0), NONE);
    }

    private static int coldest() {
        GloveHouses x = with(FOUR, "y:3");
        x.meets(0, 2);
        x.days(1);
        x.meets(0, 3);
        x.meets(1, 2);
        return x.most(3);
    }

    private static void images() {
        about = "promise 38";
        due("no peace", new GloveHouses().image(), NONE);
        GloveHouses x = with(FOUR);
        about = "promise 39";
        due("no image", x.back(), NONE);
        x.days(4);
        x.meets(0, 2);
        x.loosen(1);
        x.stuff(3, 1);
        x.swallow();
        about = "promise 38";
        due("the day", x.image(), 4);
        due("no act", x.count(11), 8);
        about = "promise 39";
        for (int i = 0; i < 7; i++) x.undo();
        x.meets(1, 2);
        x.spite(5);
        x.days(60);
        x.days(60);
        x.days(20);
        due("the day", x.back(), 4);
        due("no act can be undone", x.undo(), NONE);
        due("warmth", x.warmth(0, 2), 8);
        due("warmth", x.warmth(1, 2), 0);
        due("free", x.glove(1, 1), 3);
        due("stuffed", x.glove(3, 2), 1);
        due("knows", x.glove(2, 5), 5);
        due("met", x.most(0), 5);
        due("signed", x.matter(0, 2), 2);
        due("pride", x.rule(0), 2);
        due("coins", x.rule(1), 50 + 8 - 1 - 3 - 2 - 4);
        due("the log", x.count(10), 4);
        due("the log", x.log(3, 0), 0);
        due("log(4, 0)", x.log(4, 0), NONE);
        due("spite stays", x.count(8), 5);
        x.days(1);
        due("signed that day", x.log(0, 1), 1);
        due("met each other", x.warmth(0, 2), 8);
        due("undo", x.undo(), 0);
        due("back again", x.back(), 4);
        x.days(2);
        due("another image", x.image(), 6);
        x.days(1);
        due("instead of the one ahead", x.back(), 6);
        feed(x, "g;gh1");
        x.text(0);
        due("of another peace", x.back(), NONE);
        GloveHouses y = with("sk99;g;gh1", "y:1");
        for (int i = 0; i < 5; i++) {
            y.meets(0, 1);
            y.days(1);
        }
        y.image();
        for (int i = 0; i < 6; i++) y.undo();
        y.days(5);
        y.back();
        for (int i = 0; i < 5; i++) due("the log of the image", y.log(i, 2), 5 - i);
        y.days(60);
        for (int i = 0; i < 59; i++) {
            y.meets(0, 1);
            y.days(1);
        }
        y.image();
        y.days(60);
        y.days(60);
        y.back();
        for (int i = 0; i < 59; i++) due("the log of the image", y.log(i, 2), 59 - i);
        due("the log of the image", y.log(59, 2), 0);
    }

    private static void counts() {
        about = "promise 40";
        GloveHouses x = with(FOUR, "y:1", "y:2");
        feed(x, "abc");
        x.law(0);
        x.days(2);
        x.meets(0, 2);
        x.meets(1, 3);
        x.spite(3);
        x.seen(0, 2, 1, true);
        x.seen(0, 2, 1, true);
        int[] want = {4, 2, 2, 3, 0, 2, 2, 4, 3, 2, 2, 4};
        for (int i = 0; i < want.length; i++) due("count(" + i + ")", x.count(i), want[i]);
        due("count(12)", x.count(12), HIDDEN);
        due("count(-1)", x.count(-1), HIDDEN);
        due("NONE", GloveHouses.NONE, NONE);
        due("HIDDEN", GloveHouses.HIDDEN, HIDDEN);
    }
}
