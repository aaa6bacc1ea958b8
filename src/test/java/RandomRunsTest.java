import java.util.ArrayList;
import java.util.List;
import java.util.NoSuchElementException;
import java.util.Random;

/** Runs of drawn calls, each answered by the class and by the Oracle; the first that differs ends the test. */
public final class RandomRunsTest {
    private static final int RUNS = 600;
    private final Random random;
    private GloveHouses glove;
    private Oracle oracle;
    private List<String> calls;

    private RandomRunsTest(long seed) {
        random = new Random(seed);
    }

    public static void main(String[] args) {
        int from = args.length < 2 ? 0 : Integer.parseInt(args[0]);
        int to = args.length < 2 ? RUNS : Integer.parseInt(args[1]);
        for (int run = from; run < to; run++) {
            if (!new RandomRunsTest(run).agrees(run)) System.exit(1);
        }
        System.out.println(to - from + " drawn runs agree with the oracle");
    }

    private boolean agrees(int run) {
        glove = new GloveHouses();
        oracle = new Oracle();
        calls = new ArrayList<>();
        int length = random.nextInt(8) == 0 ? 500 : 120;
        boolean long9 = random.nextInt(10) == 0;
        for (int i = 0; i < length; i++) {
            if (random.nextInt(i < 20 ? 3 : 60) == 0) {
                if (!tells()) return fails(run);
            }
            if (long9 && i % 20 == 0 && !same("days(60)", glove.days(60), oracle.days(60))) return fails(run);
            if (!asks()) return fails(run);
        }
        return true;
    }

    private boolean fails(int run) {
        System.out.println("run " + run + ":");
        for (String call : calls) System.out.println("  " + call);
        return false;
    }

    private boolean same(String call, long got, long want) {
        calls.add(call + " answered " + got + (got == want ? "" : ", due is " + want));
        return got == want;
    }

    /** A text, now and then a broken one, comes to the tape and is taken. */
    private boolean tells() {
        boolean law = random.nextInt(3) == 0;
        String text = law ? Texts.law(random) : Texts.peace(random);
        if (random.nextInt(4) == 0) text = Texts.broken(random, text);
        calls.add("tell " + text);
        if (!same("end(0)", glove.end(0) ? 1 : 0, oracle.end(0) ? 1 : 0)) return false;
        for (int[] n : Texts.numbers(text)) {
            if (!same("feed", glove.feed(n[0], n[1], n[2], n[3], n[4]), oracle.feed(n[0], n[1], n[2], n[3], n[4]))) return false;
        }
        for (int sort = 0; sort < 2; sort++) {
            if (!same("fault(" + sort + ")", glove.fault(sort), oracle.fault(sort))) return false;
        }
        int sort = law ? 1 : 0;
        if (!same("text(" + sort + ")", glove.text(sort), oracle.text(sort))) return false;
        int holds = random.nextInt(6) - 1;
        return !law || same("law(" + holds + ")", glove.law(holds) ? 1 : 0, oracle.law(holds) ? 1 : 0);
    }

    private int about(int low, int high) {
        if (random.nextInt(40) == 0) return random.nextBoolean() ? Integer.MIN_VALUE : Integer.MAX_VALUE;
        return low - 1 + random.nextInt(high - low + 3) + (random.nextInt(20) == 0 ? 1 : 0);
    }

    private int g() {
        return random.nextInt(12) == 0 ? about(0, 5) : random.nextInt(Math.max(1, oracle.gloves.size()));
    }

    private int m() {
        return random.nextInt(8) == 0 ? about(0, 4) : random.nextInt(Math.max(1, oracle.matters.size()));
    }

    private int few() {
        return random.nextInt(3) == 0 ? about(1, 60) : 1;
    }

    private boolean asks() {
        int a = g();
        int b = g();
        int n = about(0, 9);
        switch (random.nextInt(44)) {
            case 0: case 1: case 2: case 3: case 4: return same("meets " + a + " " + b, glove.meets(a, b), oracle.meets(a, b));
            case 5: return same("loosen " + a, glove.loosen(a), oracle.loosen(a));
            case 6: return same("stuff " + a + " " + n, glove.stuff(a, n), oracle.stuff(a, n));
            case 7: return same("swallow", glove.swallow(), oracle.swallow());
            case 8: a = m(); return same("tear " + a, glove.tear(a), oracle.tear(a));
            case 9: a = about(1, 50); return same("give " + a, glove.give(a), oracle.give(a));
            case 10: case 11: a = few(); return same("days " + a, glove.days(a), oracle.days(a));
            case 12: return same("spite " + n, glove.spite(n) ? 1 : 0, oracle.spite(n) ? 1 : 0);
            case 13: a = few(); long seed = random.nextLong(); return same("years " + a + " " + seed, glove.years(a, seed), oracle.years(a, seed));
            case 14: case 15: case 16: return same("undo", glove.undo(), oracle.undo());
            case 17: return same("rises " + a + " " + b, glove.rises(a, b), oracle.rises(a, b));
            case 18: n = about(0, 60); return same("later " + a + " " + b + " " + n, glove.later(a, b, n), oracle.later(a, b, n));
            case 19: a = m(); b = about(0, 1); return same("soonest " + a + " " + b, glove.soonest(a, b), oracle.soonest(a, b));
            case 20: a = about(0, 1); return same("pairs " + a, glove.pairs(a), oracle.pairs(a));
            case 21: return same("allKnow", glove.allKnow(), oracle.allKnow());
            case 22: case 23: n = about(-9, 9); boolean is = random.nextBoolean(); return same("seen " + a + " " + b + " " + n + " " + is, glove.seen(a, b, n, is), oracle.seen(a, b, n, is));
            case 24: n = about(-1, 9); return same("fits " + a + " " + n, glove.fits(a, n), oracle.fits(a, n));
            case 25: n = about(-9, 9); return same("ask " + a + " " + n, glove.ask(a, n), oracle.ask(a, n));
            case 26: a = about(0, 4); b = about(0, 4); n = about(0, 1); return same("game " + a + " " + b + " " + n, glove.game(a, b, n), oracle.game(a, b, n));
            case 27: a = about(0, 1); return same("sure " + a, glove.sure(a), oracle.sure(a));
            case 28: a = about(-1, 3); return same("rests " + a, glove.rests(a), oracle.rests(a));
            case 29: case 30: int k = m(); n = about(0, 8); int c = about(0, 100); return same("odds " + k + " " + a + " " + b + " " + n + " " + c, glove.odds(k, a, b, n, c), oracle.odds(k, a, b, n, c));
            case 31: a = about(0, 1); n = about(0, 999); return same("shares " + a + " " + n, glove.shares(a, n), oracle.shares(a, n));
            case 32: return same("allies " + a, glove.allies(a), oracle.allies(a));
            case 33: return same("image", glove.image(), oracle.image());
            case 34: return random.nextInt(3) > 0 || same("back", glove.back(), oracle.back());
            case 35: a = about(-1, 4); return same("law " + a, glove.law(a) ? 1 : 0, oracle.law(a) ? 1 : 0);
            case 36: a = about(0, 240); return same("end " + a, glove.end(a) ? 1 : 0, oracle.end(a) ? 1 : 0);
            case 37: a = random.nextInt(); b = random.nextInt() & 0xff00ff; return same("feed " + a + " " + b, glove.feed(a, b, a, b, a), oracle.feed(a, b, a, b, a));
            case 38: a = about(0, 1); return same("fault " + a, glove.fault(a), oracle.fault(a));
            case 39: a = about(0, 59); b = about(0, 2); return same("log " + a + " " + b, glove.log(a, b), oracle.log(a, b));
            default: return looks();
        }
    }

    /** All that only tells how it is. */
    private boolean looks() {
        for (int i = -1; i <= 12; i++) {
            if (!same("count " + i, glove.count(i), oracle.count(i))) return false;
            if (!same("most " + i, glove.most(i), oracle.most(i))) return false;
            if (!same("status " + i, glove.status(i), oracle.status(i))) return false;
            if (!same("rule " + i, glove.rule(i), oracle.rule(i))) return false;
        }
        for (int i = -1; i <= 6; i++) {
            for (int j = -1; j <= 6; j++) {
                if (!same("glove " + i + " " + j, gloveOr(i, j, true), gloveOr(i, j, false))) return false;
                if (!same("warmth " + i + " " + j, glove.warmth(i, j), oracle.warmth(i, j))) return false;
                if (!same("matter " + i + " " + j, glove.matter(i, j), oracle.matter(i, j))) return false;
            }
        }
        for (int i = 0; i < 61; i += 1 + random.nextInt(10)) {
            for (int j = 0; j < 3; j++) if (!same("log " + i + " " + j, glove.log(i, j), oracle.log(i, j))) return false;
        }
        return true;
    }

    private long gloveOr(int i, int j, boolean real) {
        try {
            return real ? glove.glove(i, j) : oracle.glove(i, j);
        } catch (NoSuchElementException e) {
            return Long.MIN_VALUE;
        }
    }
}
