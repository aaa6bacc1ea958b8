import java.math.BigInteger;
import java.util.function.Consumer;

/** The edges of ==== 4 and of promises 19 and 38 to 40, sentence by sentence: YEARS by draws, IMAGE, BACK, count. */
public final class DrawEdgesTest extends Check {
    private static final int MIN = Integer.MIN_VALUE;
    private static final int MAX = Integer.MAX_VALUE;
    private static final long[] SEEDS = {0, 1, -1, 2, 7, 123456789, -987654321, Long.MIN_VALUE, Long.MAX_VALUE, 1L << 33,
        (1L << 33) - 1, 1L << 32, 6364136223846793005L, -1442695040888963407L};

    public static void main(String[] args) {
        yearsBounds();
        yearsAtTheEnd();
        yearsAsDrawn();
        yearsWhoCan();
        yearsForNothing();
        yearsSpite();
        yearsActs();
        imageBounds();
        imageKeeps();
        imageKeepsNothingElse();
        imageOfAnotherPeace();
        counts();
        closes();
    }

    // ---- YEARS

    private static void yearsBounds() {
        says("YEARS by a seed: n (1 .. 60) DAYS: the DAY. NONE: no PEACE, out of bounds");
        for (int n = -1; n <= 62; n++) {
            GloveHouses x = with("g;gh1");
            boolean taken = n >= 1 && n <= 60;
            due("years(" + n + ", 5)", x.years(n, 5), taken ? n : NONE);
            due("the DAY", x.count(5), taken ? n : 0);
            due("COINS", x.rule(1), taken ? 20 + 2 * n : 20);
            due("ACTS", x.count(11), taken ? Math.min(40, n) : 0);
            statusDue(x, 0, 0, 0, 0, 0);
        }
        due("years(MIN, 5)", with("g;gh1").years(MIN, 5), NONE);
        due("years(MAX, 5)", with("g;gh1").years(MAX, 5), NONE);
        GloveHouses none = new GloveHouses();
        due("no PEACE", none.years(1, 5), NONE);
        statusDue(none, 0, 0, 0, 0, 0);
    }

    private static void yearsAtTheEnd() {
        says("NONE: beyond 999.");
        for (int left = 0; left <= 2; left++) {
            GloveHouses x = with("sp0;g;gh1", "y:1");
            pass(x, 999 - left);
            due(left + 1 + " DAYS, " + left + " left", x.years(left + 1, 1), NONE);
            due("60 DAYS, " + left + " left", x.years(60, 1), NONE);
            due("none went by", x.count(5), 999 - left);
            due("nobody met", x.count(6), 0);
            due("PRIDE", x.rule(0), 0);
            statusDue(x, 0, 0, 0, 0, 0);
            if (left > 0) due(left + " DAYS, " + left + " left", x.years(left, 1), 999);
        }
        GloveHouses x = with("g;gh1");
        pass(x, 939);
        due("60 DAYS, 60 left", x.years(60, 1), 999);
    }

    /** The draws as the document tells them, by numbers without a bound. */
    private static final class Drawn {
        private static final BigInteger ROUND = BigInteger.ONE.shiftLeft(64);
        private BigInteger x;

        Drawn(long seed) {
            x = BigInteger.valueOf(seed).mod(ROUND);
        }

        int draw(int j) {
            x = x.multiply(new BigInteger("6364136223846793005")).add(new BigInteger("1442695040888963407")).mod(ROUND);
            return x.shiftRight(33).mod(BigInteger.valueOf(j)).intValue();
        }
    }

    private static void yearsAsDrawn() {
        says("x, at first the seed, becomes x times 6364136223846793005 and 1442695040888963407 (64 bits, going round); "
            + "a draw of j: (x shifted right by 33, without sign) modulo j");
        String[] peaces = {"sp0;g;gh1", "sp0;g;gh1;gh1", "sp0;g;gh1;g;gh1", "sp0;g;g;gh1;g;gh1", "sp0;g;g;gh1;gh1;gh1;g"};
        String[] houses = {"01", "011", "0101", "00101", "001110"};
        for (int p = 0; p < peaces.length; p++) {
            for (long seed : SEEDS) {
                for (int spite : new int[] {0, 5, 9}) asDrawn(peaces[p], houses[p], seed, spite);
            }
        }
    }

    /** Six DAYS; it RISES by PRIDE, so that PRIDE and meetings out of order would show. */
    private static void asDrawn(String peace, String houses, long seed, int spite) {
        GloveHouses x = with(peace, "y:p");
        x.spite(spite);
        due("years(6, " + seed + ")", x.years(6, seed), 6);
        Drawn drawn = new Drawn(seed);
        int gloves = houses.length();
        int[][] warm = new int[gloves][gloves];
        int[][] log = new int[6][2];
        int pride = 0;
        for (int day = 0; day < 6; day++) {
            int[] met = new int[gloves];
            for (int k = 0; k < 2; k++) {
                int one = drawn.draw(gloves);
                int other = drawn.draw(gloves);
                if (houses.charAt(one) == houses.charAt(other) || met[one] != 0 || met[other] != 0) continue;
                met[one] = other + 1;
                met[other] = one + 1;
                warm[one][other] = Math.min(99, warm[one][other] + pride);
                warm[other][one] = warm[one][other];
                log[day][0] += 2;
            }
            if (drawn.draw(10) < spite) pride = Math.min(9, pride + 1);
            for (int i = 0; i < gloves; i++) {
                for (int j = 0; j < gloves; j++) {
                    if (met[i] != j + 1) warm[i][j] = Math.max(0, warm[i][j] - 1);
                    if (i < j) log[day][1] += warm[i][j];
                }
            }
        }
        due("PRIDE by seed " + seed + " and SPITE " + spite, x.rule(0), pride);
        for (int day = 0; day < 6; day++) {
            due("how many met on DAY " + day + " by seed " + seed, x.log(5 - day, 0), log[day][0]);
            due("WARMTH of DAY " + day + " by seed " + seed, x.log(5 - day, 2), log[day][1]);
        }
        for (int i = 0; i < gloves; i++) {
            for (int j = i + 1; j < gloves; j++) {
                if (houses.charAt(i) != houses.charAt(j)) due("warmth(" + i + ", " + j + ")", x.warmth(i, j), warm[i][j]);
            }
        }
    }

    /** The first seed from 0 on whose first draws of so many are these. */
    private static long seedFor(int of, int... draws) {
        seeds:
        for (long seed = 0; seed < 1000000; seed++) {
            Drawn drawn = new Drawn(seed);
            for (int want : draws) {
                if (drawn.draw(of) != want) continue seeds;
            }
            return seed;
        }
        throw new IllegalStateException("no seed");
    }

    private static void yearsWhoCan() {
        says("two times: a draw of how many GLOVES there are, another one: these MEET, if they can");
        String four = "sp0k0;g;g;gh1;gh1";
        GloveHouses x = with(four, "y:1");
        x.years(1, seedFor(4, 0, 2, 1, 3));
        due("both times", x.log(0, 0), 4);
        due("0 and 2", x.warmth(0, 2), 1);
        due("1 and 3", x.warmth(1, 3), 1);
        x = with(four, "y:1");
        x.years(1, seedFor(4, 2, 2, 3, 0));
        due("itself, then 3 and 0", x.log(0, 0), 2);
        due("0 and 3", x.warmth(0, 3), 1);
        x = with(four, "y:1");
        x.years(1, seedFor(4, 0, 1, 2, 3));
        due("of one HOUSE both times", x.log(0, 0), 0);
        x = with(four, "y:1");
        x.years(1, seedFor(4, 0, 2, 0, 2));
        due("the same two again", x.warmth(0, 2), 1);
        x = with(four, "y:1");
        x.years(1, seedFor(4, 0, 2, 0, 3));
        due("the first met", x.log(0, 0), 2);
        due("0 and 3", x.warmth(0, 3), 0);
        x = with(four, "y:1");
        x.years(1, seedFor(4, 0, 2, 2, 1));
        due("the second met", x.log(0, 0), 2);
        due("1 and 2", x.warmth(1, 2), 0);
        x = with("sp0k1;g;g;gh1;gh1", "y:1");
        x.meets(0, 2);
        x.years(1, seedFor(4, 0, 3, 1, 2));
        due("who met ahead of it", x.log(0, 0), 2);
        due("0 and 3", x.warmth(0, 3), 0);
        due("1 and 2", x.warmth(1, 2), 0);
        due("0 and 2", x.warmth(0, 2), 1);
        says("these MEET: what they KNOW, what is SIGNED");
        x = with(four + ";mn1;mn1;mn1", "y:1");
        x.years(1, seedFor(4, 3, 1, 0, 2));
        due("1 and 3", x.glove(1, 5), 10);
        due("0 and 2", x.glove(2, 5), 5);
        due("the first", x.matter(0, 2), 13);
        due("the second", x.matter(1, 2), 2);
        due("the third", x.matter(2, 2), NONE);
        due("that DAY", x.log(0, 1), 3);
    }

    private static void yearsForNothing() {
        says("for nothing");
        GloveHouses x = with("sp0k0;g;g;gh1;gh1", "y:1");
        x.years(1, seedFor(4, 0, 2, 1, 3));
        due("without COINS", x.log(0, 0), 4);
        due("COINS are 2 more", x.rule(1), 2);
        GloveHouses rich = with("sk99;g;g;gh1;gh1", "y:1");
        for (int i = 0; i < 18; i++) rich.give(50);
        rich.years(1, seedFor(4, 0, 2, 1, 3));
        due("999 at most", rich.rule(1), 999);
    }

    private static void yearsSpite() {
        says("then a draw of 10 below SPITE (0 .. 9; 1 at first): PRIDE one more (9 at most)");
        for (int drawn = 0; drawn <= 9; drawn++) {
            long seed = 0;
            for (; seed < 100000; seed++) {
                Drawn d = new Drawn(seed);
                for (int i = 0; i < 4; i++) d.draw(2);
                if (d.draw(10) == drawn) break;
            }
            GloveHouses first = with("sp3;g;gh1");
            first.years(1, seed);
            due("at first, drawn " + drawn, first.rule(0), drawn < 1 ? 4 : 3);
            for (int spite = 0; spite <= 9; spite++) {
                for (int pride : new int[] {0, 8, 9}) {
                    GloveHouses x = with("sp" + pride + ";g;gh1");
                    x.spite(spite);
                    x.years(1, seed);
                    int want = drawn < spite ? Math.min(9, pride + 1) : pride;
                    due("PRIDE " + pride + ", SPITE " + spite + ", drawn " + drawn, x.rule(0), want);
                }
            }
        }
        GloveHouses never = with("sp0;g;gh1");
        never.spite(0);
        never.years(60, 3);
        due("SPITE 0", never.rule(0), 0);
        GloveHouses often = with("sp0;g;gh1");
        often.spite(9);
        often.years(60, 3);
        due("9 at most", often.rule(0), 9);
    }

    private static void yearsActs() {
        says("Each DAY with what is ahead of it is one ACT.");
        for (int n : new int[] {1, 2, 39, 40, 41, 60}) {
            GloveHouses x = with("sp0;g;g;gh1;gh1", "y:2");
            x.years(n, 11);
            int can = Math.min(40, n);
            due("ACTS of " + n, x.count(11), can);
            for (int i = can - 1; i >= 0; i--) due("undo()", x.undo(), i);
            due("the DAY", x.count(5), n - can);
            due("none", x.undo(), NONE);
        }
        GloveHouses x = with("sp0k5;g;g;gh1;gh1", "y:2");
        x.spite(9);
        x.meets(0, 2);
        x.years(3, 11);
        for (int i = 0; i < 3; i++) x.undo();
        due("as ahead of it: WARMTH", x.count(6), 2);
        due("as ahead of it: who met", x.most(0), 5);
        due("as ahead of it: PRIDE", x.rule(0), 0);
        due("as ahead of it: COINS", x.rule(1), 4);
        due("as ahead of it: the LOG", x.count(10), 0);
        due("one ACT is left", x.count(11), 1);
        says("x, at first the seed: with each call anew");
        GloveHouses one = with("sp0;g;g;gh1;gh1", "y:2");
        GloveHouses two = with("sp0;g;g;gh1;gh1", "y:2");
        one.years(2, 11);
        two.years(1, 11);
        two.years(1, 11);
        due("the second DAY draws as the first one", two.log(0, 0), two.log(1, 0));
        due("the first DAY is the same", one.log(1, 0), two.log(1, 0));
    }

    // ---- IMAGE and BACK

    private static void imageBounds() {
        says("An IMAGE (instead of the one ahead): the DAY. NONE: no PEACE.");
        GloveHouses none = new GloveHouses();
        due("no PEACE", none.image(), NONE);
        says("BACK: the DAY. NONE: no IMAGE of this PEACE.");
        due("no PEACE", none.back(), NONE);
        GloveHouses x = with("sk9;g;gh1", "y:1");
        due("no IMAGE", x.back(), NONE);
        due("on DAY 0", x.image(), 0);
        due("at once", x.back(), 0);
        x.days(3);
        due("back", x.back(), 0);
        due("DAY 0", x.count(5), 0);
        x.days(5);
        due("another", x.image(), 5);
        x.days(5);
        due("the later one", x.back(), 5);
        x.days(5);
        due("again", x.back(), 5);
        due("an earlier DAY", with("g;gh1").image(), 0);
        GloveHouses last = with("g;gh1");
        pass(last, 999);
        due("on the last DAY", last.image(), 999);
        for (int i = 0; i < 40; i++) last.undo();
        due("forward, too", last.back(), 999);
        due("none is beyond", last.days(1), NONE);
        says("no ACT can be UNDONE then");
        GloveHouses y = with("sk9;g;gh1");
        y.give(1);
        y.give(1);
        y.image();
        due("an IMAGE is no ACT and leaves them", y.count(11), 2);
        y.give(1);
        y.back();
        due("count(11)", y.count(11), 0);
        due("undo()", y.undo(), NONE);
        due("COINS", y.rule(1), 11);
        y.give(1);
        due("those behind it can", y.undo(), 0);
        due("COINS", y.rule(1), 11);
        GloveHouses z = with("g;gh1");
        z.give(1);
        due("no IMAGE", z.back(), NONE);
        due("what can be UNDONE stays", z.count(11), 1);
    }

    private static GloveHouses busy(int days) {
        GloveHouses x = with("sp5k99;gf3a1;ga1;g;gh1a1;gh1s1;gh1;mn2;mn3;mn1w9;mn60", "y:f/2+a-w/3", "y:2", "y:d");
        x.law(0);
        for (int i = 0; i < days; i++) {
            if (i % 4 == 0) x.meets(i % 3, 3 + i % 2);
            x.days(1);
        }
        x.meets(1, 3);
        x.loosen(2);
        x.stuff(5, 8);
        x.tear(0);
        x.meets(0, 5);
        return x;
    }

    private static void imageKeeps() {
        says("An IMAGE keeps WARMTH, how FREE and STUFFED GLOVES are, what they KNOW, who MET, "
            + "what is SIGNED by whom and that DAY, PRIDE, COINS, the DAY, the LOG; BACK: they are so again");
        Consumer<GloveHouses> nothing = x -> { };
        Consumer<GloveHouses> acts = x -> {
            x.meets(2, 4);
            x.loosen(0);
            x.stuff(1, 9);
            x.swallow();
            x.tear(0);
            x.tear(1);
            x.give(33);
        };
        Consumer<GloveHouses> days = x -> {
            x.days(60);
            x.years(60, 8);
            x.days(9);
        };
        Consumer<GloveHouses> undone = x -> {
            for (int i = 0; i < 12; i++) x.undo();
            x.meets(0, 3);
            x.days(2);
        };
        for (int early : new int[] {0, 1, 59, 60, 61, 75}) {
            for (Consumer<GloveHouses> since : java.util.List.of(nothing, acts, days, undone, acts.andThen(days).andThen(acts))) {
                for (int part = 0; part < Views.PARTS; part++) {
                    GloveHouses x = busy(early);
                    // What comes then is the same as behind a BACK at once: no ACT can be UNDONE.
                    if (part == Views.COMES) {
                        x.image();
                        x.back();
                    }
                    GloveHouses y = busy(early);
                    y.image();
                    since.accept(y);
                    due("back()", y.back(), early);
                    due("ACTS", y.count(11), 0);
                    String differs = Views.of(y, part).differsButForActs(Views.of(x, part));
                    due("BACK to DAY " + early + ": " + differs, differs == null, true);
                }
            }
        }
        says("SIGNED .. that DAY, the LOG: as they were, at the DAY's end");
        GloveHouses x = with("sk9;g;gh1;mn1", "y:1");
        x.meets(0, 1);
        x.image();
        x.days(3);
        x.back();
        x.days(1);
        due("SIGNED that DAY", x.log(0, 1), 1);
        due("MET that DAY", x.log(0, 0), 2);
        due("they met each other", x.warmth(0, 1), 1);
    }

    private static void imageKeepsNothingElse() {
        says("An IMAGE keeps .. (LAWS, which holds, SPITE, STATUS, SEEN, the TAPE are as they were)");
        GloveHouses x = with("sk9;g;gh1", "y:1");
        x.image();
        feed(x, "y:2");
        x.law(x.text(1));
        x.spite(4);
        x.give(0);
        x.seen(0, 1, 3, true);
        feed(x, "abc");
        x.back();
        due("LAWS", x.count(2), 2);
        due("the LAW that holds", x.count(4), 1);
        due("it RISES by it", x.rises(0, 1), 2);
        due("SPITE", x.count(8), 4);
        statusDue(x, 0, 1, 0, 0, 0);
        due("SEEN", x.count(9), 1);
        due("the TAPE", x.count(3), 3);
    }

    private static void imageOfAnotherPeace() {
        says("NONE: no IMAGE of this PEACE.");
        GloveHouses x = with("g;gh1");
        x.image();
        feed(x, "g;gh1");
        x.text(0);
        due("of another one", x.back(), NONE);
        x.days(2);
        due("still", x.back(), NONE);
        due("the DAY", x.count(5), 2);
        due("of this one", x.image(), 2);
        x.days(1);
        due("back()", x.back(), 2);
        feed(x, "g;g");
        due("what is refused is no other PEACE", x.text(0), NONE);
        x.days(1);
        due("back()", x.back(), 2);
        x.end(0);
        feed(x, "y:1");
        due("a LAW is no other PEACE", x.text(1), 0);
        x.days(1);
        due("back()", x.back(), 2);
    }

    // ---- count

    private static void counts() {
        says("HIDDEN for others.");
        GloveHouses none = new GloveHouses();
        GloveHouses x = with("sk99;g;g;g;gh1;gh1;gh1;mn0;m;m;m;m", "y:9", "y:9", "y:9", "y:9");
        for (int what : new int[] {-1, 12, MIN, MAX}) {
            due("count(" + what + ")", x.count(what), HIDDEN);
            due("count(" + what + "), no PEACE", none.count(what), HIDDEN);
        }
        says("0 GLOVES, 1 MATTERS, 2 LAWS, 3 bytes of the TAPE, 4 the LAW that holds (NONE), 5 the DAY, 6 WARMTH of all, "
            + "7 how many GLOVES MET this DAY, 8 SPITE, 9 SEEN, 10 how long the LOG is, 11 ACTS that can be UNDONE");
        int[] empty = {0, 0, 0, 0, NONE, 0, 0, 0, 1, 0, 0, 0};
        for (int i = 0; i < 12; i++) due("empty: count(" + i + ")", none.count(i), empty[i]);
        for (int i = 0; i < 12; i++) x.feed(-1, -1, -1, -1, -1);
        for (int i = 0; i < 10; i++) x.seen(0, 3, 1, true);
        x.spite(9);
        pass(x, 999);
        x.meets(0, 3);
        x.meets(1, 4);
        x.meets(2, 5);
        int[] full = {6, 5, 4, 240, 3, 999, 27, 6, 9, 10, 60, 40};
        for (int i = 0; i < 12; i++) due("full: count(" + i + ")", x.count(i), full[i]);
        GloveHouses warm = with("sk99;g;gh1", "y:9");
        meetDaily(warm, 0, 1, 12);
        due("WARMTH of all", warm.count(6), 99);
    }
}
