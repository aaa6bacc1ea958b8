import java.util.function.Supplier;
import java.util.function.ToLongFunction;

/**
 * "What is refused answers as told and changes nothing but STATUS": two objects that are the same, of which one
 * has refused a call, are the same still, by all that can be seen of them and by all that comes then.
 * And what is asked "apart, from as it is now" changes nothing at all.
 */
public final class RefusedTest extends Check {
    private static final int MIN = Integer.MIN_VALUE;
    private static final int MAX = Integer.MAX_VALUE;
    private static final int THROWS = HIDDEN;
    /** STATUS is as it was, too. */
    private static final int NO_STATUS = -1;
    private static Supplier<GloveHouses> made;
    private static String where;

    public static void main(String[] args) {
        bare();
        withoutPeace();
        fresh();
        busy();
        poor();
        nothingToUndo();
        full();
        fourLaws();
        faulty();
        closes();
    }

    // ---- how a refusal is told

    private static void in(String name, Supplier<GloveHouses> state) {
        where = name;
        made = state;
    }

    private static void refused(String call, int status, long answer, ToLongFunction<GloveHouses> ask) {
        says("What is refused answers as told and changes nothing but STATUS: " + where);
        int[] was = new int[5];
        GloveHouses before = made.get();
        for (int i = 0; i < 5; i++) was[i] = before.status(i);
        GloveHouses after = made.get();
        due(call, ask.applyAsLong(after), answer);
        for (int i = 0; i < 5; i++) {
            due(call + ", then status(" + i + ")", after.status(i), was[i] + (i == status ? 1 : 0));
        }
        same(call, ask);
    }

    /** It changes nothing, whatever it answers. */
    private static void apart(String call, ToLongFunction<GloveHouses> ask) {
        says("Apart, from as it is now: " + where);
        GloveHouses before = made.get();
        GloveHouses after = made.get();
        long first = ask.applyAsLong(after);
        due(call + " again", ask.applyAsLong(after), first);
        for (int i = 0; i < 5; i++) due(call + ", then status(" + i + ")", after.status(i), before.status(i));
        same(call, ask);
    }

    private static void same(String call, ToLongFunction<GloveHouses> ask) {
        for (int part = 0; part < Views.PARTS; part++) {
            GloveHouses before = made.get();
            GloveHouses after = made.get();
            ask.applyAsLong(after);
            String differs = Views.of(after, part).differsFrom(Views.of(before, part));
            due(call + " left all as it was, but " + differs, differs == null, true);
        }
    }

    private static long bit(boolean b) {
        return b ? 1 : 0;
    }

    // ---- what is refused wherever it is asked

    private static void always() {
        refused("end(-1)", NO_STATUS, 0, x -> bit(x.end(-1)));
        refused("end(241)", NO_STATUS, 0, x -> bit(x.end(241)));
        refused("end beyond", NO_STATUS, 0, x -> bit(x.end(x.count(3) + 1)));
        refused("fault(-1)", NO_STATUS, -2, x -> x.fault(-1));
        refused("fault(2)", NO_STATUS, -2, x -> x.fault(2));
        refused("text(-1)", NO_STATUS, NONE, x -> x.text(-1));
        refused("text(2)", NO_STATUS, NONE, x -> x.text(2));
        refused("rule(-1)", NO_STATUS, NONE, x -> x.rule(-1));
        refused("rule(2)", NO_STATUS, NONE, x -> x.rule(2));
        refused("glove(-1, 0)", NO_STATUS, THROWS, x -> glove(x, -1, 0));
        refused("glove(6, 0)", NO_STATUS, THROWS, x -> glove(x, 6, 0));
        refused("glove(0, -1)", NO_STATUS, THROWS, x -> glove(x, 0, -1));
        refused("glove(0, 6)", NO_STATUS, THROWS, x -> glove(x, 0, 6));
        refused("matter(-1, 0)", NO_STATUS, -2, x -> x.matter(-1, 0));
        refused("matter(5, 0)", NO_STATUS, -2, x -> x.matter(5, 0));
        refused("matter(0, 3)", NO_STATUS, -2, x -> x.matter(0, 3));
        refused("warmth(0, 6)", NO_STATUS, NONE, x -> x.warmth(0, 6));
        refused("warmth(0, 0)", NO_STATUS, NONE, x -> x.warmth(0, 0));
        refused("law(-2)", NO_STATUS, 0, x -> bit(x.law(-2)));
        refused("law(4)", NO_STATUS, 0, x -> bit(x.law(4)));
        refused("meets(0, 6)", 0, NONE, x -> x.meets(0, 6));
        refused("meets(-1, 3)", 0, NONE, x -> x.meets(-1, 3));
        refused("meets(MIN, MAX)", 0, NONE, x -> x.meets(MIN, MAX));
        refused("loosen(-1)", 0, NONE, x -> x.loosen(-1));
        refused("loosen(6)", 0, NONE, x -> x.loosen(6));
        refused("stuff(-1, 1)", 0, NONE, x -> x.stuff(-1, 1));
        refused("stuff(6, 10)", 0, NONE, x -> x.stuff(6, 10));
        refused("tear(-1)", 0, NONE, x -> x.tear(-1));
        refused("tear(5)", 0, NONE, x -> x.tear(5));
        refused("spite(-1)", NO_STATUS, 0, x -> bit(x.spite(-1)));
        refused("spite(10)", NO_STATUS, 0, x -> bit(x.spite(10)));
        refused("the same spite", NO_STATUS, 0, x -> bit(x.spite(x.count(8))));
        refused("years(0, 1)", NO_STATUS, NONE, x -> x.years(0, 1));
        refused("years(61, 1)", NO_STATUS, NONE, x -> x.years(61, 1));
        refused("years(MIN, 1)", NO_STATUS, NONE, x -> x.years(MIN, 1));
        refused("status(-1)", NO_STATUS, NONE, x -> x.status(-1));
        refused("status(5)", NO_STATUS, NONE, x -> x.status(5));
        alwaysAsked();
    }

    private static void alwaysAsked() {
        refused("log(-1, 0)", NO_STATUS, NONE, x -> x.log(-1, 0));
        refused("log(60, 0)", NO_STATUS, NONE, x -> x.log(60, 0));
        refused("log(0, 3)", NO_STATUS, NONE, x -> x.log(0, 3));
        refused("log(0, -1)", NO_STATUS, NONE, x -> x.log(0, -1));
        refused("rises(0, 6)", NO_STATUS, HIDDEN, x -> x.rises(0, 6));
        refused("rises(0, 0)", NO_STATUS, HIDDEN, x -> x.rises(0, 0));
        refused("later(0, 6, 1)", NO_STATUS, NONE, x -> x.later(0, 6, 1));
        refused("later(0, 3, -1)", NO_STATUS, NONE, x -> x.later(0, 3, -1));
        refused("later(0, 3, 61)", NO_STATUS, NONE, x -> x.later(0, 3, 61));
        refused("soonest(5, 0)", NO_STATUS, NONE, x -> x.soonest(5, 0));
        refused("soonest(0, 2)", NO_STATUS, NONE, x -> x.soonest(0, 2));
        refused("pairs(-1)", NO_STATUS, HIDDEN, x -> x.pairs(-1));
        refused("pairs(2)", NO_STATUS, HIDDEN, x -> x.pairs(2));
        refused("seen(0, 6, 0, true)", NO_STATUS, NONE, x -> x.seen(0, 6, 0, true));
        refused("seen(0, 0, 0, true)", NO_STATUS, NONE, x -> x.seen(0, 0, 0, true));
        refused("seen(0, 3, 10, true)", NO_STATUS, NONE, x -> x.seen(0, 3, 10, true));
        refused("seen(0, 3, -10, false)", NO_STATUS, NONE, x -> x.seen(0, 3, -10, false));
        refused("fits(6, 0)", NO_STATUS, NONE, x -> x.fits(6, 0));
        refused("fits(0, 10)", NO_STATUS, NONE, x -> x.fits(0, 10));
        refused("fits(0, -2)", NO_STATUS, NONE, x -> x.fits(0, -2));
        refused("ask(6, 0)", NO_STATUS, NONE, x -> x.ask(6, 0));
        refused("ask(0, 10)", NO_STATUS, NONE, x -> x.ask(0, 10));
        refused("ask(0, -10)", NO_STATUS, NONE, x -> x.ask(0, -10));
        refused("game(5, 0, 0)", NO_STATUS, HIDDEN, x -> x.game(5, 0, 0));
        refused("game(0, -1, 0)", NO_STATUS, HIDDEN, x -> x.game(0, -1, 0));
        refused("game(0, 0, 2)", NO_STATUS, HIDDEN, x -> x.game(0, 0, 2));
        refused("sure(-1)", NO_STATUS, HIDDEN, x -> x.sure(-1));
        refused("sure(2)", NO_STATUS, HIDDEN, x -> x.sure(2));
        refused("rests(-2)", NO_STATUS, NONE, x -> x.rests(-2));
        refused("rests(9)", NO_STATUS, NONE, x -> x.rests(9));
        refused("odds(5, 0, 3, 1, 1)", NO_STATUS, NONE, x -> x.odds(5, 0, 3, 1, 1));
        refused("odds(0, 0, 0, 1, 1)", NO_STATUS, NONE, x -> x.odds(0, 0, 0, 1, 1));
        refused("odds(0, 0, 3, 9, 1)", NO_STATUS, NONE, x -> x.odds(0, 0, 3, 9, 1));
        refused("odds(0, 0, 3, 1, 101)", NO_STATUS, NONE, x -> x.odds(0, 0, 3, 1, 101));
        refused("shares(2, 1)", NO_STATUS, NONE, x -> x.shares(2, 1));
        refused("shares(0, 1000)", NO_STATUS, NONE, x -> x.shares(0, 1000));
        refused("most(-1)", NO_STATUS, NONE, x -> x.most(-1));
        refused("most(9)", NO_STATUS, NONE, x -> x.most(9));
        refused("allies(-1)", NO_STATUS, NONE, x -> x.allies(-1));
        refused("allies(6)", NO_STATUS, NONE, x -> x.allies(6));
        refused("count(-1)", NO_STATUS, HIDDEN, x -> x.count(-1));
        refused("count(12)", NO_STATUS, HIDDEN, x -> x.count(12));
    }

    /** What is refused with every PEACE of six GLOVES, 0 and 1 of one HOUSE. */
    private static void withPeace() {
        refused("meets(0, 1)", 1, NONE, x -> x.meets(0, 1));
        refused("meets(0, 0)", 1, NONE, x -> x.meets(0, 0));
        refused("meets(4, 5)", 1, NONE, x -> x.meets(4, 5));
        refused("stuff(0, -1)", 1, NONE, x -> x.stuff(0, -1));
        refused("stuff(0, 10)", 1, NONE, x -> x.stuff(0, 10));
        refused("stuff as it is", 2, NONE, x -> x.stuff(0, glove(x, 0, 2)));
        refused("give(0)", 1, NONE, x -> x.give(0));
        refused("give(51)", 1, NONE, x -> x.give(51));
        refused("give(MIN)", 1, NONE, x -> x.give(MIN));
        refused("give(MAX)", 1, NONE, x -> x.give(MAX));
        refused("days(0)", 1, NONE, x -> x.days(0));
        refused("days(61)", 1, NONE, x -> x.days(61));
        refused("days(MAX)", 1, NONE, x -> x.days(MAX));
        refused("rises(0, 1)", NO_STATUS, HIDDEN, x -> x.rises(0, 1));
        refused("later(0, 1, 1)", NO_STATUS, NONE, x -> x.later(0, 1, 1));
        refused("warmth(4, 5)", NO_STATUS, NONE, x -> x.warmth(4, 5));
        refused("seen(0, 1, 0, true)", NO_STATUS, NONE, x -> x.seen(0, 1, 0, true));
        refused("odds(0, 0, 1, 1, 1)", NO_STATUS, NONE, x -> x.odds(0, 0, 1, 1, 1));
    }

    private static void asked() {
        apart("rises(0, 3)", x -> x.rises(0, 3));
        apart("later(0, 3, 60)", x -> x.later(0, 3, 60));
        apart("soonest(0, 0)", x -> x.soonest(0, 0));
        apart("soonest(1, 1)", x -> x.soonest(1, 1));
        apart("pairs(0)", x -> x.pairs(0));
        apart("pairs(1)", x -> x.pairs(1));
        apart("allKnow()", x -> x.allKnow());
        apart("fits(0, NONE)", x -> x.fits(0, NONE));
        apart("fits(3, 0)", x -> x.fits(3, 0));
        apart("ask(0, 3)", x -> x.ask(0, 3));
        apart("game(1, 2, 0)", x -> x.game(1, 2, 0));
        apart("sure(0)", x -> x.sure(0));
        apart("rests(NONE)", x -> x.rests(NONE));
        apart("rests(0)", x -> x.rests(0));
        apart("odds(0, 0, 3, 8, 50)", x -> x.odds(0, 0, 3, 8, 50));
        apart("shares(1, 999)", x -> x.shares(1, 999));
        for (int i = 0; i < 9; i++) {
            int what = i;
            apart("most(" + what + ")", x -> x.most(what));
        }
        for (int i = 0; i < 12; i++) {
            int what = i;
            apart("count(" + what + ")", x -> x.count(what));
        }
        apart("allies(0)", x -> x.allies(0));
        apart("warmth(0, 3)", x -> x.warmth(0, 3));
        apart("glove(0, 5)", x -> glove(x, 0, 5));
        apart("matter(0, 2)", x -> x.matter(0, 2));
        apart("rule(1)", x -> x.rule(1));
        apart("log(0, 2)", x -> x.log(0, 2));
        apart("status(0)", x -> x.status(0));
        apart("fault(0)", x -> x.fault(0));
        apart("fault(1)", x -> x.fault(1));
        apart("end of all", x -> bit(x.end(x.count(3))));
        apart("feed of nothing", x -> x.feed(0, 0, 0, 0, 0));
        apart("the LAW that holds", x -> bit(x.law(x.count(4))));
    }

    // ---- states

    private static void noPeace() {
        always();
        refused("rule(0)", NO_STATUS, NONE, x -> x.rule(0));
        refused("glove(0, 0)", NO_STATUS, THROWS, x -> glove(x, 0, 0));
        refused("matter(0, 0)", NO_STATUS, -2, x -> x.matter(0, 0));
        refused("warmth(0, 1)", NO_STATUS, NONE, x -> x.warmth(0, 1));
        refused("meets(0, 1)", 0, NONE, x -> x.meets(0, 1));
        refused("loosen(0)", 0, NONE, x -> x.loosen(0));
        refused("stuff(0, 1)", 0, NONE, x -> x.stuff(0, 1));
        refused("swallow()", 0, NONE, x -> x.swallow());
        refused("tear(0)", 0, NONE, x -> x.tear(0));
        refused("give(1)", 0, NONE, x -> x.give(1));
        refused("give(0)", 0, NONE, x -> x.give(0));
        refused("days(1)", 0, NONE, x -> x.days(1));
        refused("days(0)", 0, NONE, x -> x.days(0));
        refused("years(1, 1)", NO_STATUS, NONE, x -> x.years(1, 1));
        refused("undo()", NO_STATUS, NONE, x -> x.undo());
        refused("log(0, 0)", NO_STATUS, NONE, x -> x.log(0, 0));
        refused("rises(0, 1)", NO_STATUS, HIDDEN, x -> x.rises(0, 1));
        refused("later(0, 1, 0)", NO_STATUS, NONE, x -> x.later(0, 1, 0));
        refused("soonest(0, 0)", NO_STATUS, NONE, x -> x.soonest(0, 0));
        refused("pairs(0)", NO_STATUS, HIDDEN, x -> x.pairs(0));
        refused("pairs(1)", NO_STATUS, HIDDEN, x -> x.pairs(1));
        refused("allKnow()", NO_STATUS, NONE, x -> x.allKnow());
        refused("seen(0, 1, 0, true)", NO_STATUS, NONE, x -> x.seen(0, 1, 0, true));
        refused("fits(0, NONE)", NO_STATUS, NONE, x -> x.fits(0, NONE));
        refused("ask(0, 0)", NO_STATUS, NONE, x -> x.ask(0, 0));
        refused("game(0, 0, 0)", NO_STATUS, HIDDEN, x -> x.game(0, 0, 0));
        refused("sure(0)", NO_STATUS, HIDDEN, x -> x.sure(0));
        refused("rests(NONE)", NO_STATUS, NONE, x -> x.rests(NONE));
        refused("odds(0, 0, 1, 0, 0)", NO_STATUS, NONE, x -> x.odds(0, 0, 1, 0, 0));
        refused("shares(0, 0)", NO_STATUS, NONE, x -> x.shares(0, 0));
        for (int i = 0; i < 9; i++) {
            int what = i;
            refused("most(" + what + ")", NO_STATUS, NONE, x -> x.most(what));
        }
        refused("allies(0)", NO_STATUS, NONE, x -> x.allies(0));
        refused("image()", NO_STATUS, NONE, x -> x.image());
        refused("back()", NO_STATUS, NONE, x -> x.back());
    }

    private static void bare() {
        in("a new object", GloveHouses::new);
        noPeace();
        asked();
        refused("text(0)", NO_STATUS, NONE, x -> x.text(0));
        refused("text(1)", NO_STATUS, NONE, x -> x.text(1));
        refused("law(0)", NO_STATUS, 0, x -> bit(x.law(0)));
        refused("end(1)", NO_STATUS, 0, x -> bit(x.end(1)));
    }

    private static void withoutPeace() {
        in("LAWS, a TAPE and SPITE, but no PEACE", States::withoutPeace);
        noPeace();
        asked();
        refused("text(0)", NO_STATUS, NONE, x -> x.text(0));
        refused("text(1)", NO_STATUS, NONE, x -> x.text(1));
        refused("law(2)", NO_STATUS, 0, x -> bit(x.law(2)));
        refused("end(8)", NO_STATUS, 0, x -> bit(x.end(8)));
    }

    private static void fresh() {
        in("a PEACE as told", States::fresh);
        always();
        withPeace();
        asked();
        refused("undo()", NO_STATUS, NONE, x -> x.undo());
        refused("back()", NO_STATUS, NONE, x -> x.back());
        refused("log(0, 0)", NO_STATUS, NONE, x -> x.log(0, 0));
        refused("tear(0)", 2, NONE, x -> x.tear(0));
        refused("loosen(1)", 2, NONE, x -> x.loosen(1));
        refused("text(0)", NO_STATUS, NONE, x -> x.text(0));
        refused("law(0)", NO_STATUS, 0, x -> bit(x.law(0)));
    }

    private static void busy() {
        in("a PEACE in its DAYS", States::busy);
        always();
        withPeace();
        asked();
        refused("the first met", 2, NONE, x -> x.meets(0, 4));
        refused("the second met", 2, NONE, x -> x.meets(1, 5));
        refused("nine", 2, NONE, x -> x.loosen(1));
        refused("not SIGNED", 2, NONE, x -> x.tear(3));
        refused("log(3, 0)", NO_STATUS, NONE, x -> x.log(3, 0));
        refused("law(2)", NO_STATUS, 0, x -> bit(x.law(2)));
        refused("text(0)", NO_STATUS, NONE, x -> x.text(0));
        refused("text(1)", NO_STATUS, NONE, x -> x.text(1));
    }

    private static void poor() {
        in("no COINS and no PRIDE", States::poor);
        always();
        withPeace();
        asked();
        refused("met, and no COINS", 2, NONE, x -> x.meets(0, 4));
        refused("no COINS: meets(1, 4)", 3, NONE, x -> x.meets(1, 4));
        refused("nine, and no COINS", 2, NONE, x -> x.loosen(0));
        refused("no COINS: loosen(1)", 3, NONE, x -> x.loosen(1));
        refused("no COINS: stuff(0, 9)", 3, NONE, x -> x.stuff(0, 9));
        refused("no PRIDE, and no COINS", 2, NONE, x -> x.swallow());
        refused("not SIGNED", 2, NONE, x -> x.tear(1));
        in("a COIN too few for each", () -> with("sp1k3;gf1;g;g;gh1;gh1;gh1"));
        refused("3 COINS: swallow()", 3, NONE, x -> x.swallow());
        in("a COIN too few for each", () -> with("sp1k2;gf1;g;g;gh1;gh1;gh1"));
        refused("2 COINS: loosen(0)", 3, NONE, x -> x.loosen(0));
        in("a COIN too few for each", () -> with("sp1k1;gf1;g;g;gh1;gh1;gh1"));
        refused("1 COIN: stuff(0, 9)", 3, NONE, x -> x.stuff(0, 9));
    }

    private static void nothingToUndo() {
        in("all that can be UNDONE is", States::undone);
        refused("undo()", NO_STATUS, NONE, x -> x.undo());
        refused("back()", NO_STATUS, NONE, x -> x.back());
        asked();
    }

    private static void full() {
        in("all is full, on the last DAY", States::full);
        due("COINS", made.get().rule(1), 999);
        due("the DAY", made.get().count(5), 999);
        always();
        withPeace();
        asked();
        refused("feed of one byte", NO_STATUS, NONE, x -> x.feed(0, 0, 0, 0, 'g'));
        refused("feed of twenty", NO_STATUS, NONE, x -> x.feed(-1, -1, -1, -1, -1));
        refused("text(0)", NO_STATUS, NONE, x -> x.text(0));
        refused("text(1)", NO_STATUS, NONE, x -> x.text(1));
        refused("met", 2, NONE, x -> x.meets(0, 3));
        refused("nine", 2, NONE, x -> x.loosen(5));
        refused("above 999", 1, NONE, x -> x.give(1));
        refused("beyond the last DAY", 4, NONE, x -> x.days(1));
        refused("beyond the last DAY", 4, NONE, x -> x.days(60));
        refused("beyond the last DAY", NO_STATUS, NONE, x -> x.years(1, 1));
        refused("an eleventh SEEN", NO_STATUS, NONE, x -> x.seen(0, 3, 0, true));
        in("two DAYS ahead of the last", () -> {
            GloveHouses x = with(States.SIX, "y:1");
            pass(x, 997);
            x.meets(0, 3);
            return x;
        });
        refused("three DAYS", 4, NONE, x -> x.days(3));
        refused("three DAYS of YEARS", NO_STATUS, NONE, x -> x.years(3, 1));
    }

    private static void fourLaws() {
        in("four LAWS and a fifth on the TAPE", () -> {
            GloveHouses x = with(States.SIX, "y:1", "y:2", "y:3", "y:4");
            feed(x, "y:5");
            return x;
        });
        refused("text(1)", NO_STATUS, NONE, x -> x.text(1));
        refused("text(0)", NO_STATUS, NONE, x -> x.text(0));
        refused("law(4)", NO_STATUS, 0, x -> bit(x.law(4)));
    }

    private static void faulty() {
        String[] peaces = {"g", "g;g", "gh1", "g;gh1;", "g;gh2", "s;s;g;gh1", "g;g;g;g;g;gh1;g", "g;gh1;m;m;m;m;m;m", "gf1f1;gh1"};
        for (String text : peaces) {
            in("'" + text + "' on the TAPE", () -> busyWith(text));
            refused("text(0)", NO_STATUS, NONE, x -> x.text(0));
        }
        String[] laws = {"y", "y:", "y:1;", "y:12345", "y:[[[[[[[1]]]]]]]", "y:f=1", "y:f?1", "y:1;y:(f=1?1", "y:!f"};
        for (String text : laws) {
            in("'" + text + "' on the TAPE", () -> busyWith(text));
            refused("text(1)", NO_STATUS, NONE, x -> x.text(1));
        }
    }

    private static GloveHouses busyWith(String tape) {
        GloveHouses x = with(States.SIX, "y:2");
        x.meets(0, 3);
        x.seen(0, 3, 1, true);
        x.image();
        x.days(1);
        x.give(3);
        feed(x, tape);
        return x;
    }
}
