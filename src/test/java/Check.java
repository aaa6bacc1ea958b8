import java.util.NoSuchElementException;

/** How a test is told; tests extend it, as nothing can be imported from a file without a package. */
abstract class Check {
    static final int NONE = -1;
    static final int HIDDEN = -1000000;
    /** The promise or the sentence of the document that is being tested. */
    static String about = "";
    private static int right = 0;
    private static int wrong = 0;

    /** The sentence of the document whose edges come next. */
    static void says(String sentence) {
        about = "'" + sentence + "'";
    }

    static void due(String call, long got, long want) {
        if (got == want) {
            right++;
        } else {
            wrong++;
            System.out.println(about + ": " + call + " answered " + got + ", due is " + want);
        }
    }

    static void due(String call, boolean got, boolean want) {
        due(call, got ? 1 : 0, want ? 1 : 0);
    }

    static void closes() {
        System.out.println(right + " answers as due, " + wrong + " not");
        if (wrong != 0) System.exit(1);
    }

    static void feed(GloveHouses x, String text) {
        for (int[] n : Texts.numbers(text)) x.feed(n[0], n[1], n[2], n[3], n[4]);
    }

    /** A PEACE and LAWS, the last of which holds. */
    static GloveHouses with(String peace, String... laws) {
        GloveHouses x = new GloveHouses();
        feed(x, peace);
        if (x.text(0) == NONE) throw new IllegalStateException(peace);
        for (String law : laws) {
            feed(x, law);
            int number = x.text(1);
            if (number == NONE) throw new IllegalStateException(law);
            x.law(number);
        }
        return x;
    }

    static int fault(int sort, String text) {
        GloveHouses x = new GloveHouses();
        feed(x, text);
        return x.fault(sort);
    }

    static void faultDue(int sort, String text, int want) {
        due("fault(" + sort + ") of '" + text + "'", fault(sort, text), want);
    }

    /** HIDDEN stands for the exception, which no other answer of it can be. */
    static int glove(GloveHouses x, int glove, int what) {
        try {
            return x.glove(glove, what);
        } catch (NoSuchElementException e) {
            return HIDDEN;
        }
    }

    static void statusDue(GloveHouses x, int... want) {
        for (int i = 0; i < want.length; i++) due("status(" + i + ")", x.status(i), want[i]);
    }

    /** So many DAYS go by, 60 a call. */
    static void pass(GloveHouses x, int days) {
        for (int left = days; left > 0; left -= 60) x.days(Math.min(60, left));
    }

    /** Two meet on so many DAYS, with a DAY behind each; COINS are given for it. */
    static void meetDaily(GloveHouses x, int one, int other, int days) {
        for (int i = 0; i < days; i++) {
            if (x.rule(1) < 1) x.give(50);
            x.meets(one, other);
            x.days(1);
        }
    }
}
