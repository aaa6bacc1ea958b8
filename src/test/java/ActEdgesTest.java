import java.util.ArrayList;
import java.util.List;
import java.util.function.Consumer;

/** The edges of ==== 2 and of promises 6 to 18 and 20 to 22, sentence by sentence: WARMTH, meetings, DAYS, ACTS, STATUS, LOG. */
public final class ActEdgesTest extends Check {
    /** Three of HOUSE 0 (0 1 2), three of HOUSE 1 (3 4 5). */
    private static final String SIX = "sk99;g;g;g;gh1;gh1;gh1";

    public static void main(String[] args) {
        warmthBounds();
        warmthOf();
        risesHeld();
        risesWithoutLaw();
        lettersOfLaw();
        ownSecrets();
        whoCanMeet();
        coinOfMeeting();
        whatTheyKnow();
        whatIsSigned();
        cooling();
        coinsOfDay();
        lastDay();
        loosening();
        stuffing();
        swallowing();
        tearing();
        giving();
        howManyDays();
        spite();
        statusOfSeveral();
        statusStays();
        statusBounds();
        fortyActs();
        whatIsAnAct();
        undoing();
        logBounds();
        logOfDays();
        readers();
        manyCalls();
        closes();
    }

    // ---- WARMTH

    private static void warmthBounds() {
        says("WARMTH: 0 .. 99 (0 at first)");
        GloveHouses x = with("sk99;g;gh1", "y:9", "y:0-9", "y:1", "y:0-1");
        due("at first", x.warmth(0, 1), 0);
        int[] laws = {3, 1, 2, 3, 3, 0, 1, 0, 2, 1, 2, 1};
        int[] warm = {0, 0, 1, 0, 0, 9, 0, 9, 10, 1, 2, 0};
        rising(x, laws, warm);
        x = with("sk99;g;gh1", "y:9", "y:0-9", "y:1", "y:0-1");
        laws = new int[] {0, 0, 0, 0, 0, 0, 0, 0, 0, 0, 0, 0, 2, 3, 2, 2, 1, 0, 3, 3, 0, 1, 2, 0};
        warm = new int[] {9, 18, 27, 36, 45, 54, 63, 72, 81, 90, 99, 99, 99, 98, 99, 99, 90, 99, 98, 97, 99, 90, 91, 99};
        rising(x, laws, warm);
    }

    /** On each DAY they meet by one of the LAWS. */
    private static void rising(GloveHouses x, int[] laws, int[] warm) {
        for (int i = 0; i < laws.length; i++) {
            x.law(laws[i]);
            due("meeting " + i, x.meets(0, 1), warm[i]);
            due("WARMTH then", x.warmth(0, 1), warm[i]);
            x.days(1);
            due("a DAY behind it", x.warmth(0, 1), warm[i]);
        }
    }

    private static void warmthOf() {
        says("WARMTH between two. NONE: no such ones, of one HOUSE.");
        GloveHouses x = with(SIX, "y:7");
        x.meets(0, 3);
        x.meets(5, 1);
        due("warmth(0, 3)", x.warmth(0, 3), 7);
        due("warmth(3, 0)", x.warmth(3, 0), 7);
        due("warmth(1, 5)", x.warmth(1, 5), 7);
        due("warmth(2, 5)", x.warmth(2, 5), 0);
        due("warmth(5, 2)", x.warmth(5, 2), 0);
        int[][] none = {{0, 1}, {1, 0}, {3, 4}, {5, 3}, {0, 0}, {5, 5}, {0, 6}, {6, 0}, {-1, 3}, {3, -1}, {-1, -1}, {6, 6}};
        for (int[] n : none) due("warmth(" + n[0] + ", " + n[1] + ")", x.warmth(n[0], n[1]), NONE);
    }

    private static void risesHeld() {
        says("by WORTH by the LAW that holds, held within -9 .. 9");
        String[] laws = {"8", "9", "10", "9999", "0-8", "0-9", "0-10", "0-9999", "0", "9999*9999", "0-9999*9999"};
        int[] rises = {8, 9, 9, 9, -8, -9, -9, -9, 0, 9, -9};
        for (int i = 0; i < laws.length; i++) {
            GloveHouses x = with("sk99;g;gh1", "y:9", "y:" + laws[i]);
            due("RISES by " + laws[i], x.rises(0, 1), rises[i]);
            x.law(0);
            for (int k = 0; k < 2; k++) {
                x.meets(0, 1);
                x.days(1);
            }
            x.law(1);
            due("they meet by " + laws[i], x.meets(0, 1), 18 + rises[i]);
        }
    }

    private static void risesWithoutLaw() {
        says("none at first: how FREE both are together, by 2, cut, and 2, if both are AFTER the same, "
            + "less PRIDE by 3, cut, less how STUFFED both are together by 4, cut");
        for (int free = 0; free <= 18; free++) {
            for (int stuffed = 0; stuffed <= 18; stuffed++) {
                int pride = (free + stuffed) % 10;
                int one = Math.min(9, free);
                int other = Math.min(9, stuffed);
                GloveHouses x = with("sp" + pride + ";gf" + one + "s" + other + ";gh1f" + (free - one) + "s" + (stuffed - other)
                    + ";gh1a1f" + (free - one) + "s" + (stuffed - other));
                int sum = free / 2 - pride / 3 - stuffed / 4;
                due("FREE " + free + " STUFFED " + stuffed + " PRIDE " + pride, x.rises(0, 2), Math.min(9, sum));
                due("AFTER the same, too", x.rises(0, 1), Math.min(9, sum + 2));
            }
        }
        int[] by = {0, 0, 0, 1, 1, 1, 2, 2, 2, 3};
        for (int pride = 0; pride <= 9; pride++) {
            due("PRIDE " + pride, with("sp" + pride + ";gf5s0a1;gh1f5s0").rises(0, 1), 5 - by[pride]);
        }
        for (int aim = 0; aim < 16; aim++) {
            GloveHouses x = with("sp0;gf0s0a" + aim % 4 + ";gh1f0s0a" + aim / 4);
            due("AFTER " + aim % 4 + " and " + aim / 4, x.rises(0, 1), aim % 4 == aim / 4 ? 2 : 0);
        }
        due("the least of all", with("sp9;gf0s9a1;gh1f0s9").rises(0, 1), -7);
        due("held, too", with("sp0;gf9s0;gh1f9s0").rises(0, 1), 9);
    }

    private static void lettersOfLaw() {
        says("letters: f how FREE both are together");
        GloveHouses x = with("sk99;gf3;gh1f4", "y:f-1");
        due("as told", x.rises(0, 1), 6);
        x.loosen(0);
        x.loosen(1);
        due("as now", x.rises(0, 1), 8);
        due("none", with("gf0;gh1f0", "y:f").rises(0, 1), 0);
        due("the most", with("gf9;gh1f9", "y:f-10").rises(0, 1), 8);
        says("s how STUFFED both are together");
        x = with("sk99;gs3;gh1s4", "y:s");
        due("as told", x.rises(0, 1), 7);
        x.stuff(0, 0);
        x.stuff(1, 9);
        due("as now", x.rises(0, 1), 9);
        due("none", with("gs0;gh1s0", "y:s").rises(0, 1), 0);
        due("the most", with("gs9;gh1s9", "y:s-10").rises(0, 1), 8);
        says("w WARMTH between them ahead of it");
        x = with("sk99;g;g;gh1;gh1", "y:w+1");
        due("of none", x.meets(0, 2), 1);
        x.days(1);
        due("of 1", x.meets(0, 2), 3);
        due("of other two", x.rises(1, 3), 1);
        due("of one with another", x.rises(0, 3), 1);
        says("a whether both are AFTER the same (1, 0)");
        x = with("ga3;gh1a3;gh1a2", "y:a*4+1");
        due("the same", x.rises(0, 1), 5);
        due("not the same", x.rises(0, 2), 1);
        says("p PRIDE");
        x = with("sp1k99;g;gh1;mn0", "y:p");
        due("as told", x.rises(0, 1), 1);
        x.swallow();
        due("as now", x.rises(0, 1), 0);
        x.meets(0, 1);
        x.tear(0);
        due("as now", x.rises(0, 1), 1);
        due("the most", with("sp9;g;gh1", "y:p").rises(0, 1), 9);
        says("d the DAY");
        x = with("g;gh1", "y:d", "y:d-990");
        x.law(0);
        due("DAY 0", x.rises(0, 1), 0);
        x.days(1);
        due("DAY 1", x.rises(0, 1), 1);
        x.law(1);
        pass(x, 998);
        due("DAY 999", x.rises(0, 1), 9);
        x.undo();
        due("DAY 998", x.rises(0, 1), 8);
    }

    // ---- meetings

    private static void ownSecrets() {
        says("Each GLOVE KNOWS its own SECRET at first.");
        GloveHouses x = with(SIX);
        for (int i = 0; i < 6; i++) due("glove(" + i + ", 5)", x.glove(i, 5), 1 << i);
    }

    private static void whoCanMeet() {
        says("Two GLOVES of unlike HOUSES that both did not meet that DAY MEET");
        GloveHouses x = with(SIX, "y:1");
        due("0 and 3", x.meets(0, 3), 1);
        due("again", x.meets(0, 3), NONE);
        due("the other way round", x.meets(3, 0), NONE);
        due("the first met", x.meets(0, 4), NONE);
        due("the second met", x.meets(1, 3), NONE);
        due("the first met, told first", x.meets(3, 1), NONE);
        statusDue(x, 0, 0, 5, 0, 0);
        due("who met", x.most(0), 9);
        due("5 and 2", x.meets(5, 2), 1);
        due("4 and 1", x.meets(4, 1), 1);
        due("all met", x.most(0), 63);
        due("how many", x.count(7), 6);
        x.days(1);
        says("nobody has met");
        due("who met", x.most(0), 0);
        due("how many", x.count(7), 0);
        for (int i = 0; i < 6; i++) due("glove(" + i + ", 4)", x.glove(i, 4), 0);
        due("0 and 3", x.meets(0, 3), 2);
        says("of one HOUSE (1)");
        x = with(SIX);
        int[][] same = {{0, 1}, {1, 2}, {3, 4}, {5, 3}, {0, 0}, {5, 5}};
        for (int[] s : same) due("meets(" + s[0] + ", " + s[1] + ")", x.meets(s[0], s[1]), NONE);
        statusDue(x, 0, 6, 0, 0, 0);
        says("no such ones (STATUS 0)");
        int[][] no = {{0, 6}, {6, 0}, {-1, 3}, {3, -1}, {6, 7}, {Integer.MIN_VALUE, Integer.MAX_VALUE}, {6, 6}, {-1, -1}};
        for (int[] n : no) due("meets(" + n[0] + ", " + n[1] + ")", x.meets(n[0], n[1]), NONE);
        statusDue(x, 8, 6, 0, 0, 0);
        due("the highest there is", x.meets(5, 0) >= 0, true);
        says("whether it met this DAY (1, 0)");
        int[] met = {1, 0, 0, 0, 0, 1};
        for (int i = 0; i < 6; i++) due("glove(" + i + ", 4)", x.glove(i, 4), met[i]);
    }

    private static void coinOfMeeting() {
        says("MEET (a COIN) .. too few COINS (3)");
        GloveHouses x = with("sk1;g;g;gh1;gh1", "y:1");
        due("with just one", x.meets(0, 2), 1);
        due("none is left", x.rule(1), 0);
        due("with none", x.meets(1, 3), NONE);
        statusDue(x, 0, 0, 0, 1, 0);
        due("they did not", x.most(0), 5);
        due("WARMTH", x.warmth(1, 3), 0);
        x.give(1);
        due("with just one", x.meets(1, 3), 1);
        due("none is left", x.rule(1), 0);
        GloveHouses y = with("sk99;g;gh1");
        y.meets(0, 1);
        due("of 99", y.rule(1), 98);
    }

    private static void whatTheyKnow() {
        says("each KNOWS then what the other KNEW");
        GloveHouses x = with(SIX);
        x.meets(0, 3);
        due("0", x.glove(0, 5), 9);
        due("3", x.glove(3, 5), 9);
        x.days(1);
        x.meets(0, 4);
        due("0 of all it heard", x.glove(0, 5), 25);
        due("4 of all that 0 knew", x.glove(4, 5), 25);
        due("3 not of what came since", x.glove(3, 5), 9);
        x.meets(3, 1);
        due("1", x.glove(1, 5), 11);
        due("2 met nobody", x.glove(2, 5), 4);
        due("5 met nobody", x.glove(5, 5), 32);
        x.days(1);
        x.meets(2, 5);
        x.days(1);
        x.meets(2, 4);
        x.meets(1, 5);
        due("2", x.glove(2, 5), 61);
        due("5", x.glove(5, 5), 47);
        x.days(1);
        x.meets(5, 2);
        due("all of it", x.glove(2, 5), 63);
        due("all of it", x.glove(5, 5), 63);
        due("it stays", x.glove(3, 5), 11);
    }

    private static void whatIsSigned() {
        says("for which it is as WARM as it must be between them, or warmer, is SIGNED by them");
        for (int need = 0; need <= 9; need++) {
            GloveHouses x = with("g;gh1;mn" + need, "y:5");
            x.meets(0, 1);
            due("at 5 for " + need, x.matter(0, 2), need <= 5 ? 1 : NONE);
        }
        GloveHouses cold = with("g;gh1;mn0;mn1", "y:0-9");
        cold.meets(0, 1);
        due("at 0 for 0", cold.matter(0, 2), 1);
        due("at 0 for 1", cold.matter(1, 2), NONE);
        GloveHouses most = with("sk99;g;gh1;mn60", "y:w<54?9;y:w=54?5;y:1");
        meetDaily(most, 0, 1, 7);
        due("at 59 for 60", most.matter(0, 2), NONE);
        most.meets(1, 0);
        due("at 60 for 60", most.matter(0, 2), 1);
        says("the lowest MATTER that is not SIGNED");
        GloveHouses x = with("sk99;g;g;gh1;gh1;mn9;mn2;mn3;mn2;mn0", "y:3");
        x.meets(3, 0);
        int[] first = {NONE, 3, NONE, NONE, NONE};
        for (int i = 0; i < 5; i++) due("one alone: matter(" + i + ", 2)", x.matter(i, 2), first[i]);
        x.meets(1, 2);
        int[] second = {NONE, 3, 12, NONE, NONE};
        for (int i = 0; i < 5; i++) due("the next: matter(" + i + ", 2)", x.matter(i, 2), second[i]);
        x.days(1);
        x.meets(2, 0);
        x.meets(3, 1);
        int[] third = {NONE, 3, 12, 2, 13};
        for (int i = 0; i < 5; i++) due("the next: matter(" + i + ", 2)", x.matter(i, 2), third[i]);
        x.days(1);
        x.meets(0, 2);
        due("at 6, none is left for it", x.most(1), 30);
        x.days(1);
        x.meets(0, 2);
        due("at 9", x.matter(0, 2), 2);
        due("all", x.most(1), 31);
        x.days(1);
        due("with nothing to sign", x.meets(0, 2), 12);
        due("as it was", x.matter(1, 2), 3);
        x.tear(3);
        x.days(1);
        x.meets(1, 3);
        due("by others, once torn up", x.matter(3, 2), 13);
        says("is SIGNED: none that is not there");
        for (int matters = 0; matters <= 5; matters++) {
            GloveHouses y = with("g;gh1" + ";mn60".repeat(matters), "y:1");
            due("with " + matters + " MATTERS", y.meets(0, 1), 1);
            due("SIGNED", y.most(1), 0);
            y.days(1);
            due("SIGNED that DAY", y.log(0, 1), 0);
        }
    }

    // ---- a DAY

    private static void cooling() {
        says("WARMTH between two that both did not meet each other that DAY is 1 less (0 at least)");
        GloveHouses x = with(SIX, "y:2");
        x.meets(0, 3);
        x.meets(1, 4);
        x.days(1);
        due("they met", x.warmth(0, 3), 2);
        due("they met", x.warmth(1, 4), 2);
        due("both met, but others", x.warmth(0, 4), 0);
        x.meets(0, 4);
        x.days(1);
        due("the first met another", x.warmth(0, 3), 1);
        due("the second met another", x.warmth(1, 4), 1);
        due("they met", x.warmth(0, 4), 2);
        x.meets(0, 3);
        x.meets(1, 4);
        x.days(1);
        due("both met others", x.warmth(0, 4), 1);
        due("they met", x.warmth(0, 3), 3);
        x.days(1);
        due("neither met", x.warmth(0, 3), 2);
        due("1 to 0", x.warmth(0, 4), 0);
        x.days(1);
        due("0 at least", x.warmth(0, 4), 0);
        due("2 to 1", x.warmth(0, 3), 1);
        x.days(2);
        due("0 at least", x.count(6), 0);
        GloveHouses top = with("sk99;g;gh1", "y:9");
        meetDaily(top, 0, 1, 11);
        due("at 99", top.warmth(0, 1), 99);
        top.days(1);
        due("98", top.warmth(0, 1), 98);
        top.days(60);
        due("38", top.warmth(0, 1), 38);
        top.days(38);
        due("0", top.warmth(0, 1), 0);
    }

    private static void coinsOfDay() {
        says("COINS 2 more (999 at most)");
        int[] ahead = {0, 996, 997, 998, 999};
        int[] then = {2, 998, 999, 999, 999};
        for (int i = 0; i < ahead.length; i++) {
            GloveHouses x = with("sk0;g;gh1");
            for (int left = ahead[i]; left > 0; left -= 50) x.give(Math.min(50, left));
            due("COINS", x.rule(1), ahead[i]);
            x.days(1);
            due("behind a DAY", x.rule(1), then[i]);
        }
    }

    private static void lastDay() {
        says("A DAY (0 at first; 999 at most: none goes by then) .. beyond the last DAY (4)");
        GloveHouses x = with("sk0;g;gh1");
        due("at first", x.count(5), 0);
        pass(x, 960);
        due("the DAY", x.count(5), 960);
        due("40 more", x.days(40), NONE);
        due("60 more", x.days(60), NONE);
        statusDue(x, 0, 0, 0, 0, 2);
        due("none of them went by", x.count(5), 960);
        due("38 more", x.days(38), 998);
        due("2 more", x.days(2), NONE);
        due("1 more", x.days(1), 999);
        due("1 more", x.days(1), NONE);
        statusDue(x, 0, 0, 0, 0, 4);
        due("COINS", x.rule(1), 999);
        due("the LOG", x.count(10), 60);
        due("they can still MEET", x.meets(0, 1) >= 0, true);
        due("but once", x.meets(0, 1), NONE);
        due("the last can be UNDONE", x.undo(), 39);
        due("the DAY", x.count(5), 999);
        due("the last can be UNDONE", x.undo(), 38);
        due("the DAY", x.count(5), 998);
        due("1 more", x.days(1), 999);
    }

    // ---- other ACTS

    private static void loosening() {
        says("LOOSENED (FREE one more, 9 at most; 3 COINS) .. no such GLOVE (STATUS 0), nine (2), too few COINS (3)");
        GloveHouses x = with("sk99;gf0;gh1f9;gh1f8");
        for (int free = 1; free <= 9; free++) due("loosen(0)", x.loosen(0), free);
        due("COINS", x.rule(1), 99 - 27);
        due("at nine", x.loosen(0), NONE);
        due("told so", x.loosen(1), NONE);
        statusDue(x, 0, 0, 2, 0, 0);
        due("FREE", x.glove(0, 1), 9);
        due("COINS", x.rule(1), 99 - 27);
        due("8", x.loosen(2), 9);
        due("nine", x.loosen(2), NONE);
        for (int no : new int[] {-1, 3, 6, Integer.MIN_VALUE, Integer.MAX_VALUE}) due("loosen(" + no + ")", x.loosen(no), NONE);
        statusDue(x, 5, 0, 3, 0, 0);
        for (int coins = 0; coins <= 5; coins++) {
            GloveHouses y = with("sk" + coins + ";gf1;gh1");
            due("with " + coins, y.loosen(0), coins < 3 ? NONE : 2);
            due("COINS then", y.rule(1), coins < 3 ? coins : coins - 3);
            due("STATUS 3", y.status(3), coins < 3 ? 1 : 0);
        }
    }

    private static void stuffing() {
        says("STUFFED otherwise (0 .. 9; 2 COINS) .. no such GLOVE (STATUS 0), out of bounds (1), it is so (2), too few COINS (3)");
        for (int was = 0; was <= 9; was++) {
            GloveHouses x = with("sk99;gs" + was + ";gh1");
            for (int v = -1; v <= 10; v++) {
                boolean taken = v >= 0 && v <= 9 && v != was;
                due("stuff(0, " + v + ") of " + was, x.stuff(0, v), taken ? was : NONE);
                due("STUFFED", x.glove(0, 2), taken ? v : was);
                due("COINS", x.rule(1), taken ? 97 : 99);
                if (taken) x.undo();
            }
            statusDue(x, 0, 2, 1, 0, 0);
        }
        GloveHouses x = with("g;gh1");
        for (int no : new int[] {-1, 2, Integer.MIN_VALUE, Integer.MAX_VALUE}) due("stuff(" + no + ", 1)", x.stuff(no, 1), NONE);
        due("stuff(0, MAX)", x.stuff(0, Integer.MAX_VALUE), NONE);
        due("stuff(0, MIN)", x.stuff(0, Integer.MIN_VALUE), NONE);
        statusDue(x, 4, 2, 0, 0, 0);
        for (int coins = 0; coins <= 4; coins++) {
            GloveHouses y = with("sk" + coins + ";gs1;gh1");
            due("with " + coins, y.stuff(0, 2), coins < 2 ? NONE : 1);
            due("COINS then", y.rule(1), coins < 2 ? coins : coins - 2);
            due("STATUS 3", y.status(3), coins < 2 ? 1 : 0);
        }
    }

    private static void swallowing() {
        says("PRIDE is swallowed (one less; 4 COINS) .. no PEACE (STATUS 0), none (2), too few COINS (3)");
        GloveHouses none = new GloveHouses();
        due("no PEACE", none.swallow(), NONE);
        statusDue(none, 1, 0, 0, 0, 0);
        GloveHouses x = with("sp9k99;g;gh1");
        for (int pride = 8; pride >= 0; pride--) due("swallow()", x.swallow(), pride);
        due("COINS", x.rule(1), 99 - 36);
        due("none", x.swallow(), NONE);
        statusDue(x, 0, 0, 1, 0, 0);
        due("PRIDE", x.rule(0), 0);
        due("COINS", x.rule(1), 99 - 36);
        for (int coins = 0; coins <= 6; coins++) {
            GloveHouses y = with("sp1k" + coins + ";g;gh1");
            due("with " + coins, y.swallow(), coins < 4 ? NONE : 0);
            due("COINS then", y.rule(1), coins < 4 ? coins : coins - 4);
            due("STATUS 3", y.status(3), coins < 4 ? 1 : 0);
        }
    }

    private static void tearing() {
        says("a SIGNED MATTER is torn up (PRIDE one more, 9 at most) .. no such MATTER (STATUS 0), not SIGNED (2)");
        for (int pride = 0; pride <= 9; pride++) {
            GloveHouses x = with("sp" + pride + "k1;g;gh1;mn0;mn0", "y:0");
            due("not SIGNED", x.tear(0), NONE);
            x.meets(0, 1);
            due("the other is not", x.tear(1), NONE);
            due("without COINS, at PRIDE " + pride, x.tear(0), Math.min(9, pride + 1));
            due("PRIDE", x.rule(0), Math.min(9, pride + 1));
            due("COINS", x.rule(1), 0);
            due("SIGNED", x.matter(0, 2), NONE);
            due("again", x.tear(0), NONE);
            due("MATTER 2 of 2", x.tear(2), NONE);
            due("MATTER -1", x.tear(-1), NONE);
            statusDue(x, 2, 0, 3, 0, 0);
        }
        GloveHouses none = with("g;gh1");
        due("with no MATTER", none.tear(0), NONE);
        due("tear(MAX)", none.tear(Integer.MAX_VALUE), NONE);
        due("tear(MIN)", none.tear(Integer.MIN_VALUE), NONE);
        statusDue(none, 3, 0, 0, 0, 0);
        GloveHouses last = with("sk9;g;gh1;mn60;mn60;mn60;mn60;mn0");
        last.meets(0, 1);
        due("the fifth", last.tear(4), 5);
        due("a sixth", last.tear(5), NONE);
        GloveHouses no = new GloveHouses();
        due("no PEACE", no.tear(0), NONE);
        statusDue(no, 1, 0, 0, 0, 0);
    }

    private static GloveHouses rich(int coins) {
        GloveHouses x = with("sk0;g;gh1");
        for (int left = coins; left > 0; left -= 50) x.give(Math.min(50, left));
        return x;
    }

    private static void giving() {
        says("COINS are given (1 .. 50; 999 at most) .. no PEACE (STATUS 0), out of bounds, above 999 (1)");
        for (int n = -1; n <= 52; n++) {
            GloveHouses x = with("sk7;g;gh1");
            boolean taken = n >= 1 && n <= 50;
            due("give(" + n + ")", x.give(n), taken ? 7 + n : NONE);
            due("COINS", x.rule(1), taken ? 7 + n : 7);
            due("STATUS 1", x.status(1), taken ? 0 : 1);
        }
        due("give(MIN)", rich(0).give(Integer.MIN_VALUE), NONE);
        due("give(MAX)", rich(999).give(Integer.MAX_VALUE), NONE);
        int[][] cases = {{949, 50, 999}, {950, 50, NONE}, {950, 49, 999}, {998, 1, 999}, {998, 2, NONE}, {999, 1, NONE}, {948, 50, 998}};
        for (int[] c : cases) {
            GloveHouses x = rich(c[0]);
            due(c[0] + " and " + c[1], x.give(c[1]), c[2]);
            due("COINS", x.rule(1), c[2] == NONE ? c[0] : c[2]);
            due("STATUS 1", x.status(1), c[2] == NONE ? 1 : 0);
        }
        GloveHouses none = new GloveHouses();
        due("no PEACE", none.give(1), NONE);
        statusDue(none, 1, 0, 0, 0, 0);
    }

    private static void howManyDays() {
        says("DAYS (1 .. 60) .. no PEACE (STATUS 0), out of bounds (1)");
        for (int n = -1; n <= 62; n++) {
            GloveHouses x = with("sk0;g;gh1");
            boolean taken = n >= 1 && n <= 60;
            due("days(" + n + ")", x.days(n), taken ? n : NONE);
            due("the DAY", x.count(5), taken ? n : 0);
            due("COINS", x.rule(1), taken ? 2 * n : 0);
            due("STATUS 1", x.status(1), taken ? 0 : 1);
        }
        GloveHouses x = with("g;gh1");
        due("days(MIN)", x.days(Integer.MIN_VALUE), NONE);
        due("days(MAX)", x.days(Integer.MAX_VALUE), NONE);
        statusDue(x, 0, 2, 0, 0, 0);
        GloveHouses none = new GloveHouses();
        due("no PEACE", none.days(1), NONE);
        statusDue(none, 1, 0, 0, 0, 0);
        due("the DAY", none.count(5), 0);
    }

    private static void spite() {
        says("SPITE (0 .. 9; 1 at first). False: out of bounds, it is so.");
        GloveHouses x = new GloveHouses();
        due("at first", x.count(8), 1);
        due("it is so", x.spite(1), false);
        for (int v : new int[] {-1, 10, Integer.MIN_VALUE, Integer.MAX_VALUE}) due("spite(" + v + ")", x.spite(v), false);
        due("as it was", x.count(8), 1);
        for (int v : new int[] {0, 9, 8, 1, 2}) {
            due("spite(" + v + ")", x.spite(v), true);
            due("count(8)", x.count(8), v);
            due("it is so", x.spite(v), false);
            due("count(8)", x.count(8), v);
        }
        statusDue(x, 0, 0, 0, 0, 0);
    }

    // ---- STATUS

    private static void statusOfSeveral() {
        says("STATUS .. of several the first");
        GloveHouses x = with("sp0k1;gf9s3;gf9;gh1f9;gh1;m");
        x.meets(0, 2);
        due("COINS", x.rule(1), 0);
        due("no such, met, no COINS", x.meets(0, 4), NONE);
        due("no such, both the same", x.meets(4, 4), NONE);
        due("no such, no COINS", x.loosen(4), NONE);
        due("no such, out of bounds, no COINS", x.stuff(4, 10), NONE);
        due("no such, no COINS", x.stuff(-1, 3), NONE);
        statusDue(x, 5, 0, 0, 0, 0);
        due("of one HOUSE, met, no COINS", x.meets(0, 1), NONE);
        due("of one HOUSE, no COINS", x.meets(1, 1), NONE);
        due("out of bounds, no COINS", x.stuff(0, 10), NONE);
        due("out of bounds, no COINS", x.stuff(0, -1), NONE);
        statusDue(x, 5, 4, 0, 0, 0);
        due("the first met, no COINS", x.meets(0, 3), NONE);
        due("the second met, no COINS", x.meets(1, 2), NONE);
        due("nine, no COINS", x.loosen(0), NONE);
        due("it is so, no COINS", x.stuff(0, 3), NONE);
        due("none, no COINS", x.swallow(), NONE);
        statusDue(x, 5, 4, 5, 0, 0);
        due("no COINS", x.meets(1, 3), NONE);
        due("no COINS", x.loosen(3), NONE);
        due("no COINS", x.stuff(0, 4), NONE);
        statusDue(x, 5, 4, 5, 3, 0);
        GloveHouses last = with("g;gh1");
        pass(last, 999);
        due("out of bounds, beyond the last", last.days(0), NONE);
        due("out of bounds, beyond the last", last.days(61), NONE);
        statusDue(last, 0, 2, 0, 0, 0);
        due("beyond the last", last.days(60), NONE);
        statusDue(last, 0, 2, 0, 0, 1);
        GloveHouses none = new GloveHouses();
        none.give(0);
        none.days(0);
        none.days(61);
        none.stuff(0, 10);
        none.meets(0, 0);
        none.tear(0);
        none.swallow();
        none.loosen(0);
        statusDue(none, 8, 0, 0, 0, 0);
    }

    private static void statusStays() {
        says("STATUS .. not UNDONE");
        GloveHouses x = with("sk4;g;gh1");
        x.give(1);
        x.image();
        x.give(0);
        x.loosen(9);
        x.meets(0, 1);
        x.meets(0, 1);
        x.loosen(0);
        x.loosen(0);
        statusDue(x, 1, 1, 1, 1, 0);
        for (int i = 0; i < 3; i++) x.undo();
        due("nothing is left", x.undo(), NONE);
        statusDue(x, 1, 1, 1, 1, 0);
        x.back();
        statusDue(x, 1, 1, 1, 1, 0);
        x.years(3, 3);
        x.years(0, 3);
        x.years(61, 3);
        says("No STATUS.");
        statusDue(x, 1, 1, 1, 1, 0);
        pass(x, 995);
        due("YEARS beyond", x.years(60, 3), NONE);
        statusDue(x, 1, 1, 1, 1, 0);
        says("STATUS: how many ACTS were refused: all else that is refused is no ACT");
        GloveHouses y = with("g;gh1");
        y.undo();
        y.back();
        y.law(9);
        y.text(0);
        y.end(9);
        y.spite(1);
        y.seen(0, 0, 0, true);
        y.later(0, 1, 61);
        y.rises(0, 0);
        y.warmth(0, 0);
        y.odds(0, 0, 0, 0, 0);
        y.most(9);
        y.log(0, 0);
        y.matter(0, 0);
        y.status(9);
        glove(y, 9, 9);
        statusDue(y, 0, 0, 0, 0, 0);
    }

    private static void statusBounds() {
        says("STATUS. NONE: no such what.");
        GloveHouses x = new GloveHouses();
        for (int what = 0; what <= 4; what++) due("status(" + what + ")", x.status(what), 0);
        for (int what : new int[] {-1, 5, Integer.MIN_VALUE, Integer.MAX_VALUE}) due("status(" + what + ")", x.status(what), NONE);
    }

    // ---- ACTS

    private static void fortyActs() {
        says("the latest 40 can be UNDONE one by one");
        for (int acts : new int[] {1, 39, 40, 41, 79, 80, 81, 100}) {
            GloveHouses x = with("sk0;g;gh1");
            for (int i = 0; i < acts; i++) x.give(1);
            int can = Math.min(40, acts);
            due("of " + acts, x.count(11), can);
            for (int i = can - 1; i >= 0; i--) due("undo()", x.undo(), i);
            due("none", x.undo(), NONE);
            due("COINS then", x.rule(1), acts - can);
            due("count(11)", x.count(11), 0);
        }
        GloveHouses x = with("sk0;g;gh1");
        for (int i = 0; i < 45; i++) x.give(1);
        for (int i = 0; i < 10; i++) x.undo();
        due("30 are left", x.count(11), 30);
        for (int i = 0; i < 9; i++) x.give(2);
        due("39", x.count(11), 39);
        x.give(2);
        x.give(2);
        due("40 again", x.count(11), 40);
        for (int i = 0; i < 11; i++) x.undo();
        due("COINS", x.rule(1), 35);
        for (int i = 0; i < 29; i++) x.undo();
        due("COINS", x.rule(1), 6);
        due("none", x.undo(), NONE);
        says("The latest ACT is UNDONE: how many still can be. NONE: none.");
        due("no PEACE", new GloveHouses().undo(), NONE);
        due("a new one", with("g;gh1").undo(), NONE);
    }

    private static void whatIsAnAct() {
        says("All these (each DAY) are ACTS");
        GloveHouses x = with("sk50;g;gh1;mn0", "y:1");
        x.meets(0, 1);
        due("meets", x.count(11), 1);
        x.loosen(0);
        due("loosen", x.count(11), 2);
        x.stuff(0, 9);
        due("stuff", x.count(11), 3);
        x.swallow();
        due("swallow", x.count(11), 4);
        x.tear(0);
        due("tear", x.count(11), 5);
        x.give(5);
        due("give", x.count(11), 6);
        x.days(1);
        due("a DAY", x.count(11), 7);
        x.days(3);
        due("each DAY", x.count(11), 10);
        x.years(4, 1);
        due("each DAY of YEARS", x.count(11), 14);
        x.spite(5);
        x.law(NONE);
        x.seen(0, 1, 1, true);
        x.image();
        feed(x, "y:2");
        x.text(1);
        x.meets(0, 0);
        x.days(0);
        x.tear(1);
        x.allKnow();
        x.pairs(0);
        due("nothing else", x.count(11), 14);
        x.undo();
        due("SPITE", x.count(8), 5);
        due("which holds", x.count(4), NONE);
        due("SEEN", x.count(9), 1);
        due("LAWS", x.count(2), 2);
        x = with("g;gh1");
        x.days(39);
        due("39", x.count(11), 39);
        x.days(1);
        due("40", x.count(11), 40);
        x.days(1);
        due("40 at most", x.count(11), 40);
    }

    /** Each ACT undone leaves all as it was ahead of it, LOG and what comes then, too. */
    private static void undoing() {
        says("ACTS: the latest 40 can be UNDONE one by one (LOG, too)");
        List<Consumer<GloveHouses>> acts = new ArrayList<>();
        acts.add(x -> x.meets(0, 3));
        acts.add(x -> x.meets(1, 4));
        acts.add(x -> x.days(1));
        acts.add(x -> x.meets(0, 4));
        acts.add(x -> x.tear(0));
        acts.add(x -> x.loosen(2));
        acts.add(x -> x.stuff(5, 9));
        acts.add(x -> x.days(1));
        acts.add(x -> x.swallow());
        acts.add(x -> x.give(50));
        acts.add(x -> x.meets(5, 2));
        acts.add(x -> x.years(1, 77));
        acts.add(x -> x.years(1, -8));
        acts.add(x -> x.meets(0, 3));
        acts.add(x -> x.tear(1));
        acts.add(x -> x.days(1));
        for (int early : new int[] {0, 58, 70}) {
            for (int kept = 0; kept <= acts.size(); kept++) {
                for (int part = 0; part < Views.PARTS; part++) {
                    GloveHouses x = undoStart(early);
                    GloveHouses y = undoStart(early);
                    for (Consumer<GloveHouses> act : acts.subList(0, kept)) act.accept(x);
                    for (Consumer<GloveHouses> act : acts) act.accept(y);
                    for (int i = kept; i < acts.size(); i++) y.undo();
                    String differs = Views.of(y, part).differsFrom(Views.of(x, part));
                    due("undone to " + kept + " of " + acts.size() + " behind DAY " + early + ": " + differs, differs == null, true);
                }
            }
        }
    }

    private static GloveHouses undoStart(int early) {
        GloveHouses x = with("sp5k99;gf3a1;ga1;g;gh1a1;gh1s1;gh1;mn2;mn3;mn1w9;mn60", "y:f/2+a-w/3");
        for (int i = 0; i < early; i++) {
            if (i % 5 == 0) x.meets(i % 3, 3 + i % 2);
            x.days(1);
        }
        // No ACT can be UNDONE then, so that both have the same number of them.
        x.image();
        x.back();
        return x;
    }

    // ---- the LOG

    private static void logBounds() {
        says("LOG, the latest (i 0), the one ahead of it (1) ..: NONE: no such ones. .. (the latest 60)");
        for (int days : new int[] {0, 1, 2, 59, 60, 61, 120, 130, 300}) {
            GloveHouses x = with("g;gh1");
            pass(x, days);
            int length = Math.min(60, days);
            due("count(10) behind " + days, x.count(10), length);
            for (int what = 0; what < 3; what++) {
                if (length > 0) due("log(0, " + what + ")", x.log(0, what), 0);
                if (length > 0) due("log(" + (length - 1) + ", " + what + ")", x.log(length - 1, what), 0);
                due("log(" + length + ", " + what + ")", x.log(length, what), NONE);
                due("log(-1, " + what + ")", x.log(-1, what), NONE);
                due("log(MAX, " + what + ")", x.log(Integer.MAX_VALUE, what), NONE);
                due("log(MIN, " + what + ")", x.log(Integer.MIN_VALUE, what), NONE);
            }
            for (int what : new int[] {-1, 3, Integer.MIN_VALUE, Integer.MAX_VALUE}) {
                due("log(0, " + what + ")", x.log(0, what), NONE);
            }
        }
        due("no PEACE", new GloveHouses().log(0, 0), NONE);
        // WARMTH tells which DAY it was: 1, 2, .. 90.
        GloveHouses x = with("sk99;g;gh1", "y:1");
        meetDaily(x, 0, 1, 90);
        for (int i = 0; i < 60; i++) due("log(" + i + ", 2)", x.log(i, 2), 90 - i);
        due("log(60, 2)", x.log(60, 2), NONE);
        for (int i = 0; i < 13; i++) {
            x.undo();
            x.undo();
        }
        due("the DAY", x.count(5), 77);
        for (int i = 0; i < 60; i++) due("log(" + i + ", 2)", x.log(i, 2), 77 - i);
        x.days(1);
        due("log(0, 2)", x.log(0, 2), 76);
        due("log(1, 2)", x.log(1, 2), 77);
        due("log(59, 2)", x.log(59, 2), 19);
    }

    private static void logOfDays() {
        says("the LOG: how many GLOVES MET, what was SIGNED that DAY (bits; torn up since, too), WARMTH of all together then");
        GloveHouses x = with("sk99;g;g;g;gh1;gh1;gh1;mn60;mn3;mn3;mn3;mn3", "y:3");
        x.days(1);
        x.meets(0, 3);
        x.days(1);
        x.meets(0, 4);
        x.meets(1, 3);
        x.tear(2);
        x.days(1);
        x.meets(0, 5);
        x.meets(1, 4);
        x.meets(2, 3);
        x.days(1);
        x.tear(1);
        x.days(1);
        // 0-3 is 3 2 1, 0-4 and 1-3 are 3 2, 0-5, 1-4 and 2-3 are 3; then all are one less.
        int[][] want = {{0, 0, 0 + 1 + 1 + 2 + 2 + 2}, {6, 20, 1 + 2 + 2 + 3 + 3 + 3}, {4, 12, 2 + 3 + 3}, {2, 2, 3}, {0, 0, 0}};
        for (int i = 0; i < 5; i++) {
            for (int what = 0; what < 3; what++) due("log(" + i + ", " + what + ")", x.log(i, what), want[i][what]);
        }
        says("SIGNED that DAY .. torn up since, too");
        GloveHouses y = with("sk99;g;g;gh1;gh1;mn0", "y:1");
        y.meets(0, 2);
        y.tear(0);
        y.meets(1, 3);
        due("by others on the same DAY", y.matter(0, 2), 13);
        y.tear(0);
        y.days(1);
        due("once as a bit", y.log(0, 1), 1);
        y.days(1);
        due("not on the next DAY", y.log(0, 1), 0);
        GloveHouses five = with("sk99;g;g;g;gh1;gh1;gh1;mn60;mn60;mn60;mn60;mn0", "y:1");
        five.meets(0, 3);
        five.days(1);
        due("the fifth MATTER", five.log(0, 1), 16);
    }

    // ---- promises 6 to 8

    private static void readers() {
        says("0 PRIDE, 1 COINS, both as now. NONE: no PEACE, no such what.");
        GloveHouses none = new GloveHouses();
        GloveHouses x = with("sp7k3;gh1f1s2a3;gf4s5a2;mw6n7");
        int[] beyond = {-1, Integer.MIN_VALUE, Integer.MAX_VALUE};
        for (int what : beyond) due("rule(" + what + ")", x.rule(what), NONE);
        due("rule(0)", x.rule(0), 7);
        due("rule(1)", x.rule(1), 3);
        due("rule(2)", x.rule(2), NONE);
        due("no PEACE", none.rule(0), NONE);
        says("NoSuchElementException: no such ones.");
        for (int what : beyond) due("glove(0, " + what + ")", glove(x, 0, what), HIDDEN);
        for (int no : beyond) due("glove(" + no + ", 0)", glove(x, no, 0), HIDDEN);
        due("glove(0, 6)", glove(x, 0, 6), HIDDEN);
        due("glove(2, 0)", glove(x, 2, 0), HIDDEN);
        due("glove(0, 0)", glove(x, 0, 0), 1);
        due("glove(1, 5)", glove(x, 1, 5), 2);
        due("no PEACE", glove(none, 0, 0), HIDDEN);
        GloveHouses six = with(SIX);
        due("glove(5, 0)", glove(six, 5, 0), 1);
        due("glove(6, 0)", glove(six, 6, 0), HIDDEN);
        says("NONE: it is not .. -2: no such ones.");
        for (int what : beyond) due("matter(0, " + what + ")", x.matter(0, what), -2);
        for (int no : beyond) due("matter(" + no + ", 0)", x.matter(no, 0), -2);
        due("matter(0, 0)", x.matter(0, 0), 6);
        due("matter(0, 1)", x.matter(0, 1), 7);
        due("matter(0, 2)", x.matter(0, 2), NONE);
        due("matter(0, 3)", x.matter(0, 3), -2);
        due("matter(1, 0)", x.matter(1, 0), -2);
        due("matter(1, 2)", x.matter(1, 2), -2);
        due("no MATTER", six.matter(0, 2), -2);
        due("no PEACE", none.matter(0, 2), -2);
        GloveHouses five = with("g;gh1;m;m;m;m;mw9");
        due("matter(4, 0)", five.matter(4, 0), 9);
        due("matter(5, 0)", five.matter(5, 0), -2);
        says("by whom it is SIGNED (10 times the lower GLOVE and the higher one)");
        GloveHouses high = with("sk9;gh1;gh1;gh1;gh1;g;g;mn0;mn0", "y:1");
        high.meets(4, 3);
        high.meets(0, 5);
        due("matter(0, 2)", high.matter(0, 2), 34);
        due("matter(1, 2)", high.matter(1, 2), 5);
    }

    private static void manyCalls() {
        says("An object is used for at most 512 calls after it has been made");
        GloveHouses x = new GloveHouses();
        for (int i = 0; i < 511; i++) x.days(1);
        due("the 512th call: how many ACTS were refused", x.status(0), 511);
        GloveHouses y = new GloveHouses();
        y.feed(0x673b6768, 0x31000000, 0, 0, 0);
        y.text(0);
        for (int i = 0; i < 254; i++) {
            y.give(1);
            y.undo();
        }
        y.give(7);
        due("the 512th call: COINS", y.rule(1), 27);
        GloveHouses z = new GloveHouses();
        for (int i = 0; i < 240; i++) z.feed(0, 0, ' ', 0, 0);
        for (int i = 0; i < 270; i++) z.fault(i % 2);
        due("the 511th call: the FAULT", z.fault(1), 240);
        due("the 512th call: the FAULT", z.fault(0), 240);
    }
}
