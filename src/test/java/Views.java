import java.util.ArrayList;
import java.util.List;
import java.util.NoSuchElementException;

/**
 * All that can be seen of an object but for STATUS, in parts of which each takes fewer than 400 calls:
 * the document tells nothing of an object behind its 512th call, so each part is looked at on an object of its own.
 */
final class Views {
    /** How many parts there are. */
    static final int PARTS = 5;
    /** The part that goes on with the object. */
    static final int COMES = 3;
    private static final String ACTS = "count(11)";
    private final List<String> names = new ArrayList<>();
    private final List<Long> answers = new ArrayList<>();

    private Views() {
    }

    static Views of(GloveHouses x, int part) {
        Views v = new Views();
        if (part == 0) v.state(x);
        if (part == 1) v.log(x);
        if (part == 2) v.apart(x);
        if (part == COMES) v.whatComes(x);
        if (part == 4) v.tape(x);
        return v;
    }

    /** The first answer that is another one there; null if none is. */
    String differsFrom(Views other) {
        return differsFrom(other, "");
    }

    /** The same, however many ACTS can be UNDONE. */
    String differsButForActs(Views other) {
        return differsFrom(other, ACTS);
    }

    private String differsFrom(Views other, String leftOut) {
        for (int i = 0; i < names.size(); i++) {
            if (!names.get(i).equals(leftOut) && !answers.get(i).equals(other.answers.get(i))) {
                return names.get(i) + " is " + answers.get(i) + ", not " + other.answers.get(i);
            }
        }
        return null;
    }

    private void see(String name, long answer) {
        names.add(name);
        answers.add(answer);
    }

    private void state(GloveHouses x) {
        for (int i = 0; i < 12; i++) see("count(" + i + ")", x.count(i));
        for (int i = 0; i < 2; i++) see("rule(" + i + ")", x.rule(i));
        for (int i = 0; i < 2; i++) see("fault(" + i + ")", x.fault(i));
        for (int i = 0; i < 9; i++) see("most(" + i + ")", x.most(i));
        for (int i = 0; i < 36; i++) see("glove(" + i / 6 + ", " + i % 6 + ")", glove(x, i / 6, i % 6));
        for (int i = 0; i < 15; i++) see("matter(" + i / 3 + ", " + i % 3 + ")", x.matter(i / 3, i % 3));
        for (int i = 0; i < 36; i++) see("warmth(" + i / 6 + ", " + i % 6 + ")", x.warmth(i / 6, i % 6));
        for (int i = 0; i < 6; i++) see("fits(" + i + ", NONE)", x.fits(i, -1));
    }

    private void log(GloveHouses x) {
        for (int i = 0; i < 183; i++) see("log(" + i / 3 + ", " + i % 3 + ")", x.log(i / 3, i % 3));
    }

    private void apart(GloveHouses x) {
        for (int i = 0; i < 36; i++) see("rises(" + i / 6 + ", " + i % 6 + ")", x.rises(i / 6, i % 6));
        for (int i = 0; i < 36; i++) see("later(" + i / 6 + ", " + i % 6 + ", 9)", x.later(i / 6, i % 6, 9));
        for (int i = 0; i < 10; i++) see("soonest(" + i / 2 + ", " + i % 2 + ")", x.soonest(i / 2, i % 2));
        for (int i = 0; i < 2; i++) see("pairs(" + i + ")", x.pairs(i));
        see("allKnow()", x.allKnow());
        for (int i = 0; i < 60; i++) see("fits(" + i / 10 + ", " + i % 10 + ")", x.fits(i / 10, i % 10));
        for (int i = 0; i < 6; i++) see("ask(" + i + ", 3)", x.ask(i, 3));
        for (int i = 0; i < 50; i++) see("game", x.game(i / 2 % 5, i / 10, i % 2));
        for (int i = 0; i < 2; i++) see("sure(" + i + ")", x.sure(i));
        for (int i = -1; i < 9; i++) see("rests(" + i + ")", x.rests(i));
        for (int i = 0; i < 5; i++) see("odds(" + i + ", 0, 3, 6, 37)", x.odds(i, 0, 3, 6, 37));
        for (int i = 0; i < 2; i++) see("shares(" + i + ", 999)", x.shares(i, 999));
        for (int i = 0; i < 6; i++) see("allies(" + i + ")", x.allies(i));
    }

    /** What can't be told by asking shows by what comes then: the draws, all ACTS undone, the IMAGE. */
    private void whatComes(GloveHouses x) {
        see("text(0)", x.fault(0) == -1 ? 0 : x.text(0));
        see("give(1)", x.give(1));
        see("meets(0, 3)", x.meets(0, 3));
        see("years(2, 5)", x.years(2, 5));
        brief(x);
        for (int i = 0; i < 43; i++) {
            see("undo()", x.undo());
            see("the DAY", x.count(5));
            see("COINS", x.rule(1));
            see("WARMTH of all", x.count(6));
        }
        brief(x);
        see("back()", x.back());
        see("acts", x.count(11));
        brief(x);
        for (int i = 0; i < 4; i++) {
            see("law(" + i + ")", x.law(i) ? 1 : 0);
            see("rises(0, 3)", x.rises(0, 3));
        }
    }

    /** Its bytes show by where its first ones are at fault. */
    private void tape(GloveHouses x) {
        for (int n = x.count(3); n >= 0; n -= n > 60 ? 2 : 1) {
            see("end(" + n + ")", x.end(n) ? 1 : 0);
            see("fault(" + n % 2 + ")", x.fault(n % 2));
        }
    }

    private void brief(GloveHouses x) {
        for (int i = 0; i < 9; i++) see("most(" + i + ")", x.most(i));
        for (int i = 0; i < 5; i++) see("matter(" + i + ", 2)", x.matter(i, 2));
        for (int i = 0; i < 3; i++) see("log(0, " + i + ")", x.log(0, i));
        see("the log's length", x.count(10));
        see("log(59, 2)", x.log(59, 2));
        see("PRIDE", x.rule(0));
    }

    private static long glove(GloveHouses x, int glove, int what) {
        try {
            return x.glove(glove, what);
        } catch (NoSuchElementException e) {
            return Long.MIN_VALUE;
        }
    }
}
