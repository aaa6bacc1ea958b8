import java.util.Random;

/** The edges of 'Terms' ahead of ==== 2 and of promises 1 to 5, sentence by sentence: the TAPE, a PEACE, a LAW, FAULTS. */
public final class TextEdgesTest extends Check {
    private static final String DIGITS = "0123456789";
    private static final String LETTERS = "fswapd";
    private static final String ATOMS = " " + LETTERS + DIGITS;
    private static final String SIGNS = " +-*/";

    public static void main(String[] args) {
        newObject();
        feeding();
        leavingZerosOut();
        ending();
        faultSorts();
        clausesOfPeace();
        howManyOfEach();
        itemsOnceAtMost();
        digitsOfPeace();
        boundsOfPeace();
        usualValues();
        blanks();
        whatGoesOnInPeace();
        whatGoesOnInLaw();
        withinOneAnother();
        digitsOfLaw();
        endsTooEarly();
        taking();
        fourLaws();
        anotherPeace();
        heldNumbers();
        cutting();
        worth();
        closes();
    }

    // ---- promises 1 to 4: the TAPE

    private static void newObject() {
        says("Promise 1: No PEACE.");
        GloveHouses x = new GloveHouses();
        int[] counts = {0, 0, 0, 0, NONE, 0, 0, 0, 1, 0, 0, 0};
        for (int i = 0; i < counts.length; i++) due("count(" + i + ")", x.count(i), counts[i]);
        statusDue(x, 0, 0, 0, 0, 0);
        due("rule(0)", x.rule(0), NONE);
        due("rule(1)", x.rule(1), NONE);
        due("glove(0, 0)", glove(x, 0, 0), HIDDEN);
        due("matter(0, 0)", x.matter(0, 0), -2);
        due("warmth(0, 1)", x.warmth(0, 1), NONE);
        due("warmth(0, 0)", x.warmth(0, 0), NONE);
        due("most(0)", x.most(0), NONE);
        due("undo()", x.undo(), NONE);
        due("log(0, 0)", x.log(0, 0), NONE);
    }

    private static void feeding() {
        says("NONE: more than 240.");
        GloveHouses x = new GloveHouses();
        for (int i = 1; i <= 12; i++) due("feed of 20", x.feed(-1, -1, -1, -1, -1), 20 * i);
        due("none more on a full one", x.feed(0, 0, 0, 0, 0), 240);
        due("one more on a full one", x.feed(0, 0, 0, 0, 1), NONE);
        due("twenty more on a full one", x.feed(-1, -1, -1, -1, -1), NONE);
        due("how many", x.count(3), 240);
        x.end(239);
        due("two more on 239", x.feed(0, 0, 257, 0, 0), NONE);
        due("as it was", x.count(3), 239);
        due("one more on 239", x.feed(0, 0, 256, 0, 0), 240);
        x.end(220);
        due("twenty more on 220", x.feed(-1, -1, -1, -1, -1), 240);
        x.end(221);
        due("twenty more on 221", x.feed(-1, -1, -1, -1, -1), NONE);
        due("as it was", x.count(3), 221);
        due("nineteen more on 221", x.feed(-1, -1, -1, -1, -256), 240);
        says("What is refused answers as told and changes nothing but STATUS");
        GloveHouses y = new GloveHouses();
        feed(y, " ".repeat(235) + "g;gh1");
        due("full", y.count(3), 240);
        due("refused", y.feed(0x67000000, 0, 0, 0, 0), NONE);
        due("no byte of it came", y.fault(0), NONE);
        due("it can be taken, full", y.text(0), 2);
    }

    private static void leavingZerosOut() {
        says("of each number the highest first; bytes of 0 are left out");
        for (int place = 0; place < 20; place++) {
            int[] n = new int[5];
            n[place / 4] = 'y' << 24 - place % 4 * 8;
            GloveHouses x = new GloveHouses();
            due("one byte at " + place, x.feed(n[0], n[1], n[2], n[3], n[4]), 1);
            due("its fault", x.fault(1), 1);
            n[place / 4] = 0xff << 24 - place % 4 * 8;
            due("a byte of 255 at " + place, x.feed(n[0], n[1], n[2], n[3], n[4]), 2);
            due("its fault", x.fault(1), 1);
        }
        GloveHouses x = new GloveHouses();
        due("highest first", x.feed(0x673b6768, 0x31000000, 0, 0, 0), 5);
        due("g;gh1", x.fault(0), NONE);
        GloveHouses y = new GloveHouses();
        due("with zeros between", y.feed(0x67003b00, 0x00670068, 0, 0x31, 0), 5);
        due("g;gh1", y.fault(0), NONE);
        due("nothing", new GloveHouses().feed(0, 0, 0, 0, 0), 0);
    }

    private static void ending() {
        says("The TAPE has its first n bytes alone. False: n.");
        GloveHouses x = new GloveHouses();
        due("end(0) of an empty one", x.end(0), true);
        due("end(1) of an empty one", x.end(1), false);
        due("end(-1) of an empty one", x.end(-1), false);
        feed(x, "g;gh1;q");
        due("end(8) of 7", x.end(8), false);
        due("end(-1)", x.end(-1), false);
        due("end(MAX)", x.end(Integer.MAX_VALUE), false);
        due("end(MIN)", x.end(Integer.MIN_VALUE), false);
        due("as it was", x.count(3), 7);
        due("as it was", x.fault(0), 6);
        due("end(7) of 7", x.end(7), true);
        due("as it was", x.fault(0), 6);
        due("end(5)", x.end(5), true);
        due("its first 5", x.fault(0), NONE);
        due("end(6) of 5", x.end(6), false);
        due("end(1)", x.end(1), true);
        feed(x, ";gh1");
        due("what comes then comes behind them", x.fault(0), NONE);
        due("end(0)", x.end(0), true);
        due("end(1) of an empty one", x.end(1), false);
        for (int i = 0; i < 12; i++) x.feed(-1, -1, -1, -1, -1);
        due("end(241) of a full one", x.end(241), false);
        due("end(240) of a full one", x.end(240), true);
        due("how many", x.count(3), 240);
    }

    private static void faultSorts() {
        says("-2: no such sort.");
        for (int sort : new int[] {-1, 2, -2, Integer.MIN_VALUE, Integer.MAX_VALUE}) {
            due("fault(" + sort + ")", new GloveHouses().fault(sort), -2);
        }
        says("The FAULT of the TAPE as a PEACE (0), a LAW (1). NONE: none.");
        faultDue(0, "", 0);
        faultDue(1, "", 0);
        faultDue(0, "g;gh1", NONE);
        faultDue(1, "g;gh1", 0);
        faultDue(0, "y:1", 0);
        faultDue(1, "y:1", NONE);
        GloveHouses x = new GloveHouses();
        feed(x, "g;gh1");
        x.fault(0);
        x.fault(1);
        due("asking takes nothing", x.count(3), 5);
        due("it is no PEACE yet", x.count(0), 0);
        due("again", x.fault(0), NONE);
    }

    // ---- a PEACE

    private static void clausesOfPeace() {
        says("CLAUSES with ; between");
        faultDue(0, "g;gh1", NONE);
        faultDue(0, ";g;gh1", 0);
        faultDue(0, "g;;gh1", 2);
        faultDue(0, "g;gh1;", 6);
        faultDue(0, "g;gh1;;", 6);
        faultDue(0, "ggh1", 1);
        faultDue(0, "g gh1", 2);
        says("in any order");
        for (String t : new String[] {"s;g;gh1;m", "s;m;g;gh1", "m;s;gh1;g", "g;s;m;gh1", "g;gh1;m;s", "gh1;m;g;s"}) {
            faultDue(0, t, NONE);
        }
        says("ITEMS, none or more");
        for (String t : new String[] {"gh1;g", "gh1;gf1", "gh1;gf1s1", "gh1;gf1s1a1", "gh1;gf1s1a1h0", "gh1;ga1h0s1f1"}) {
            faultDue(0, t, NONE);
        }
    }

    private static String times(String clause, int n) {
        return (clause + ";").repeat(n);
    }

    private static void howManyOfEach() {
        says("s (its RULES; one at most) .. a second s");
        faultDue(0, "g;gh1", NONE);
        faultDue(0, "s;g;gh1", NONE);
        faultDue(0, "s;s", 2);
        faultDue(0, "s;g;gh1;s", 8);
        faultDue(0, "sp1;g;gh1; sk1", 11);
        says("g (a GLOVE; 2 .. 6) .. with fewer than two GLOVES, without one of either HOUSE .. a seventh g");
        faultDue(0, "s", 1);
        faultDue(0, "m;s", 3);
        faultDue(0, "g", 1);
        faultDue(0, "gh1", 3);
        faultDue(0, "gh0;gh0", 7);
        faultDue(0, "gh1;gh1", 7);
        faultDue(0, times("g", 5) + "g", 11);
        faultDue(0, times("gh1", 5) + "gh1", 23);
        faultDue(0, times("g", 5) + "gh1", NONE);
        faultDue(0, times("gh1", 5) + "g", NONE);
        faultDue(0, times("g", 5) + "gh1;g", 14);
        faultDue(0, times("g", 5) + "gh1; g", 15);
        faultDue(0, times("g", 5) + "gh1;m;g", 16);
        faultDue(0, times("g", 6) + "g", 12);
        for (int gloves = 2; gloves <= 6; gloves++) {
            due(gloves + " GLOVES", with(times("g", gloves - 1) + "gh1").count(0), gloves);
        }
        says("m (a MATTER; none to 5) .. a sixth m");
        for (int matters = 0; matters <= 5; matters++) {
            due(matters + " MATTERS", with(times("m", matters) + "g;gh1").count(1), matters);
        }
        faultDue(0, times("m", 5) + "m", 10);
        faultDue(0, times("m", 5) + "g;gh1;m", 16);
        faultDue(0, "s;" + times("m", 5) + times("g", 5) + "gh1", NONE);
        faultDue(0, "s;" + times("m", 5) + times("g", 5) + "gh1;m", 26);
        faultDue(0, "s;" + times("m", 5) + times("g", 5) + "gh1;g", 26);
        faultDue(0, "s;" + times("m", 5) + times("g", 5) + "gh1;s", 26);
    }

    private static void itemsOnceAtMost() {
        says("a letter, each once at most in a CLAUSE .. a letter that was there");
        String[] kinds = {"spk", "ghfsa", "mwn"};
        for (String kind : kinds) {
            for (int i = 1; i < kind.length(); i++) {
                char letter = kind.charAt(i);
                faultDue(0, kind.charAt(0) + "" + letter + "1" + letter + "1", 3);
                faultDue(0, kind.charAt(0) + "" + letter + "1 " + letter, 4);
                for (int j = 1; j < kind.length(); j++) {
                    if (i != j) faultDue(0, kind.charAt(0) + "" + letter + "1" + kind.charAt(j) + "1" + letter + "1", 5);
                }
            }
        }
        faultDue(0, "gf1;gf1h1", NONE);
        faultDue(0, "g;gh1;mw1n1;mw1n1", NONE);
    }

    private static void digitsOfPeace() {
        says("a number (one or two digits)");
        faultDue(0, "gh1;gf", 6);
        faultDue(0, "gh1;gf;", 6);
        faultDue(0, "gh1;gfs1", 6);
        faultDue(0, "gh1;gf-1", 6);
        faultDue(0, "gh1;gf+1", 6);
        faultDue(0, "gh1;gf0", NONE);
        faultDue(0, "gh1;gf00", NONE);
        faultDue(0, "gh1;gf09", NONE);
        says("a third digit itself, whatever stands ahead of it");
        String[] items = {"sp", "sk", "gh", "gf", "gs", "ga", "mw", "mn"};
        for (String item : items) {
            for (String two : new String[] {"00", "01", "10", "61", "99"}) {
                faultDue(0, item + two + "0", 4);
                faultDue(0, item + two + "0000", 4);
                faultDue(0, item + "  " + two + "9;", 6);
            }
        }
    }

    private static void boundsOfPeace() {
        says("0 .. n .. a number out of bounds is wrong at its last digit");
        bound("sp", 9);
        bound("sk", 99);
        bound("gh", 1);
        bound("gf", 9);
        bound("gs", 9);
        bound("ga", 3);
        bound("mw", 9);
        bound("mn", 60);
        says("of s: p PRIDE .. of m: w WEIGHT ..: each letter in its own CLAUSE alone");
        String all = "pkhfsawn";
        String[] own = {"s pk", "g hfsa", "m wn"};
        for (String kind : own) {
            for (char letter : all.toCharArray()) {
                boolean has = kind.indexOf(letter, 2) >= 0;
                faultDue(0, kind.charAt(0) + "" + letter + "0", has ? 3 : 1);
            }
        }
    }

    /** Both ends are taken, whatever stands ahead of the digits; the first beyond, and 99, are not. */
    private static void bound(String item, int most) {
        int at = item.length();
        String rest = ";g;gh1";
        for (int v = 0; v <= most; v++) faultDue(0, item + v + rest, NONE);
        for (int v = most + 1; v <= 99; v++) {
            int last = v < 10 ? at : at + 1;
            faultDue(0, item + v + rest, last);
            faultDue(0, item + v, last);
            faultDue(0, item + " " + v + " ", last + 1);
        }
        if (most < 10) faultDue(0, item + "0" + most + rest, NONE);
        if (most < 9) faultDue(0, item + "0" + (most + 1) + rest, at + 1);
    }

    private static void usualValues() {
        says("4 without .. 20 .. 0 .. 4 .. 3 .. 0 .. 3 .. 10");
        for (String peace : new String[] {"g;gh1;m", "s;g;gh1;m", "m;gh01;g;s"}) {
            GloveHouses x = with(peace);
            due("PRIDE", x.rule(0), 4);
            due("COINS", x.rule(1), 20);
            due("FREE", x.glove(0, 1), 4);
            due("STUFFED", x.glove(0, 2), 3);
            due("AFTER", x.glove(0, 3), 0);
            due("WEIGHT", x.matter(0, 0), 3);
            due("how WARM", x.matter(0, 1), 10);
        }
        due("HOUSE", with("g;gh1").glove(0, 0), 0);
        due("HOUSE", with("gh1;g").glove(0, 0), 1);
        GloveHouses x = with("sp0;g;gh1f0;mn0");
        due("one of two told", x.rule(0), 0);
        due("one of two not told", x.rule(1), 20);
        due("one of four told", x.glove(1, 1), 0);
        due("one of four not told", x.glove(1, 2), 3);
        due("not of the CLAUSE ahead", with("gf9s9a3;gh1").glove(1, 1), 4);
        due("not of the CLAUSE ahead", with("mw9n60;g;gh1;m").matter(1, 0), 3);
        GloveHouses least = with("sp0k0;gh0f0s0a0;gh1f0s0a0;mw0n0");
        GloveHouses most = with("sp9k99;gh1f9s9a3;gh0f9s9a3;mw9n60");
        int[] highest = {9, 99, 1, 9, 9, 3, 9, 60};
        for (int i = 0; i < 8; i++) {
            due("the least " + i, told(least, i), 0);
            due("the most " + i, told(most, i), highest[i]);
        }
    }

    private static int told(GloveHouses x, int i) {
        return i < 2 ? x.rule(i) : i < 6 ? x.glove(0, i - 2) : x.matter(0, i - 6);
    }

    private static void blanks() {
        says("Blanks (32) may stand between all signs of both, not within numbers.");
        faultDue(0, "  s  p  9  k  99  ;  g  h  1  ;  g  f  09  ;  m  w  1  n  60  ", NONE);
        faultDue(1, "  y  :  (  f  +  1  =  [  s  ]  |  !  a  <  0012  )  ?  p  /  d  ;  y  :  7  ", NONE);
        faultDue(0, "sk1 2", 4);
        faultDue(0, "sk1 ", 4);
        faultDue(0, "mn6 0;g;gh1", 4);
        faultDue(1, "y:1 2", 4);
        faultDue(1, "y:123 4", 6);
        for (char other : new char[] {9, 10, 11, 12, 13, 31, 33, 160}) {
            faultDue(0, other + "g;gh1", 0);
            faultDue(0, "g" + other + ";gh1", 1);
            faultDue(0, "g;gh1" + other, 5);
            faultDue(1, other + "y:1", 0);
            faultDue(1, "y" + other + ":1", 1);
            faultDue(1, "y:1" + other, 3);
        }
        says("the length, if it ends too early");
        faultDue(0, "   ", 3);
        faultDue(0, "g ;  ", 5);
        faultDue(0, "g;g  ", 5);
        faultDue(0, "g;gh  ", 6);
        faultDue(1, "   ", 3);
        faultDue(1, "y : ", 4);
        faultDue(1, "y:f+  ", 6);
    }

    /** Behind the text just these signs can stand; any other byte is the FAULT. */
    private static void goesOn(int sort, String text, String signs) {
        int at = text.length();
        for (int b = 1; b < 256; b++) {
            int fault = fault(sort, text + (char) b);
            if (signs.indexOf((char) b) < 0) {
                due("fault(" + sort + ") of '" + text + "' and byte " + b, fault, at);
            } else {
                due("'" + text + (char) b + "' of sort " + sort + " can go on", fault == NONE || fault == at + 1, true);
            }
        }
    }

    private static void whatGoesOnInPeace() {
        says("FAULT: the first byte at which no such TEXT can go on");
        goesOn(0, "", " sgm");
        goesOn(0, "s", " pk;");
        goesOn(0, "g", " hfsa;");
        goesOn(0, "m", " wn;");
        for (String item : new String[] {"sp", "sk", "gf", "gs", "mw", "mn"}) goesOn(0, item, " " + DIGITS);
        goesOn(0, "gh", " 01");
        goesOn(0, "ga", " 0123");
        goesOn(0, "sp0", DIGITS + " k;");
        goesOn(0, "sp1", " k;");
        goesOn(0, "sp9", " k;");
        goesOn(0, "sp 9 ", " k;");
        goesOn(0, "sk9", DIGITS + " p;");
        goesOn(0, "sk99", " p;");
        goesOn(0, "sk1p1", " ;");
        goesOn(0, "gh0", "01 fsa;");
        goesOn(0, "gh1", " fsa;");
        goesOn(0, "ga0", "0123 hfs;");
        goesOn(0, "gf0s0", DIGITS + " ha;");
        goesOn(0, "ga1s1f1h1", " ;");
        goesOn(0, "mn5", DIGITS + " w;");
        goesOn(0, "mn6", "0 w;");
        goesOn(0, "mn60", " w;");
        goesOn(0, "mn7", " w;");
        goesOn(0, "mw9n60", " ;");
        goesOn(0, "s;", " gm");
        goesOn(0, "g;", " sgm");
        goesOn(0, "m;g;", " sgm");
        goesOn(0, "g;gh1;", " sgm");
        goesOn(0, times("g", 5) + "gh1;", " sm");
        goesOn(0, times("m", 5), " sg");
        goesOn(0, "s;" + times("m", 5), " g");
        goesOn(0, "s;gh1;" + times("g", 5), " m");
    }

    private static void whatGoesOnInLaw() {
        says("FAULT: the first byte at which no such TEXT can go on");
        goesOn(1, "", " y");
        goesOn(1, "y", " :");
        goesOn(1, "y:", ATOMS + "[!(");
        goesOn(1, "y:f", SIGNS + "=<>;");
        goesOn(1, "y:f ", SIGNS + "=<>;");
        goesOn(1, "y:1", SIGNS + DIGITS + "=<>;");
        goesOn(1, "y:1 ", SIGNS + "=<>;");
        goesOn(1, "y:1234", SIGNS + "=<>;");
        for (String sign : new String[] {"+", "-", "*", "/"}) goesOn(1, "y:f" + sign, ATOMS + "[");
        goesOn(1, "y:f+s", SIGNS + "=<>;");
        goesOn(1, "y:[", ATOMS + "[");
        goesOn(1, "y:[f", SIGNS + "]");
        goesOn(1, "y:[1", SIGNS + DIGITS + "]");
        goesOn(1, "y:[f]", SIGNS + "=<>;");
        goesOn(1, "y:[f+[s]", SIGNS + "]");
        for (String sign : new String[] {"=", "<", ">"}) goesOn(1, "y:f" + sign, ATOMS + "[");
        goesOn(1, "y:f=s", SIGNS + "&|?");
        goesOn(1, "y:f=[s", SIGNS + "]");
        goesOn(1, "y:f=[s]", SIGNS + "&|?");
        goesOn(1, "y:f=s&", ATOMS + "[!(");
        goesOn(1, "y:f=s|", ATOMS + "[!(");
        goesOn(1, "y:f=s|a", SIGNS + "=<>");
        goesOn(1, "y:f=s&a=1", SIGNS + DIGITS + "&|?");
        goesOn(1, "y:f=s?", ATOMS + "[");
        goesOn(1, "y:f=s?f", SIGNS + ";");
        goesOn(1, "y:f=s?[f", SIGNS + "]");
        goesOn(1, "y:f=s?[f]", SIGNS + ";");
        goesOn(1, "y:f;", " y");
        goesOn(1, "y:f=s?f;", " y");
        goesOn(1, "y:f;y", " :");
        says("A CLAUSE that goes on with ! or ( behind its : has a CONDITION.");
        goesOn(1, "y:!", ATOMS + "[!(");
        goesOn(1, "y:!f", SIGNS + "=<>");
        goesOn(1, "y:!f=s", SIGNS + "&|?");
        goesOn(1, "y:(", ATOMS + "[!(");
        goesOn(1, "y:(f", SIGNS + "=<>");
        goesOn(1, "y:([f]", SIGNS + "=<>");
        goesOn(1, "y:(f=s", SIGNS + "&|)");
        goesOn(1, "y:(f=s&a=p", SIGNS + "&|)");
        goesOn(1, "y:(f=s)", " &|?");
        goesOn(1, "y:!(f=s)", " &|?");
        goesOn(1, "y:((f=s)", " &|)");
        goesOn(1, "y:(!f=s", SIGNS + "&|)");
        goesOn(1, "y:(f=s)&a", SIGNS + "=<>");
        goesOn(1, "y:(f=s)?", ATOMS + "[");
    }

    private static void withinOneAnother() {
        says("At most six of ( [ ! within one another. .. a seventh of ( [ !");
        String[] six = {"!!!!!!", "((((((", "(!(!(!", "!!!((("};
        for (String open : six) {
            goesOn(1, "y:" + open.substring(0, 5), ATOMS + "[!(");
            goesOn(1, "y:" + open, ATOMS);
            goesOn(1, "y:" + open + "f+", ATOMS);
            goesOn(1, "y:" + open + "f=", ATOMS);
            goesOn(1, "y:f=s&" + open, ATOMS);
            goesOn(1, "y:f=s|" + open, ATOMS);
        }
        goesOn(1, "y:[[[[[", ATOMS + "[");
        goesOn(1, "y:[[[[[[", ATOMS);
        goesOn(1, "y:[[[[[[f*", ATOMS);
        goesOn(1, "y:f=[[[[[[", ATOMS);
        goesOn(1, "y:f=s?[[[[[[", ATOMS);
        goesOn(1, "y:(!([[[", ATOMS);
        goesOn(1, "y:((((((f=s|", ATOMS);
        goesOn(1, "y:((((((f=s&", ATOMS);
        says("within one another: what is closed counts no longer");
        goesOn(1, "y:[[[[[[f]+", ATOMS + "[");
        goesOn(1, "y:((((((f=s)&", ATOMS + "[!(");
        goesOn(1, "y:((((((f=s)|", ATOMS + "[!(");
        goesOn(1, "y:!!!!!!f=s&", ATOMS + "[!(");
        goesOn(1, "y:!!!!!!f=s|", ATOMS + "[!(");
        goesOn(1, "y:!!!!!!f=s?", ATOMS + "[");
        goesOn(1, "y:(!!!!!f=s&", ATOMS + "[!(");
        faultDue(1, "y:[[[[[[1]]]]]]+[[[[[[1]]]]]]", NONE);
        faultDue(1, "y:[[[[[[1]]]]]]>[[[[[[1]]]]]]?[[[[[[1]]]]]];y:[[[[[[1]]]]]]", NONE);
        faultDue(1, "y:((((((f=1))))))|((((((f=1))))))&!!!!!!f=1?1", NONE);
        faultDue(1, "y:((((((f=1)))))))", 17);
        faultDue(1, "y:[[[[[[1]]]]]]]", 15);
    }

    private static void digitsOfLaw() {
        says("a number (1 to 4 digits) .. a third digit (a fifth one in a LAW) itself");
        for (String number : new String[] {"0", "9", "00", "99", "000", "999", "0000", "0001", "9999"}) {
            faultDue(1, "y:" + number, NONE);
            faultDue(1, "y:[" + number + "]>" + number + "?" + number, NONE);
        }
        faultDue(1, "y:00000", 6);
        faultDue(1, "y:12345", 6);
        faultDue(1, "y:1234567", 6);
        faultDue(1, "y:99999+", 6);
        faultDue(1, "y:f=12345", 8);
        faultDue(1, "y:f=1?12345", 10);
        faultDue(1, "y:[12345", 7);
    }

    /** What can end behind one of its bytes has no FAULT there, and all else has it at its length. */
    private static void prefixesDue(int sort, String text) {
        for (int i = 0; i < text.length(); i++) {
            int fault = fault(sort, text.substring(0, i));
            due("the first " + i + " of '" + text + "' go on", fault == NONE || fault == i, true);
        }
        faultDue(sort, text, NONE);
    }

    private static void endsTooEarly() {
        says("the length, if it ends too early");
        prefixesDue(0, " s p 9 k 99 ; g h 1 f 9 s 9 a 3 ; g ; g ; g ; g ; g ; m w 9 n 60 ; m ; m ; m ; m ");
        prefixesDue(1, " y : ! ( f + 1 = [ s * 2 - w ] | ! a < 0012 & ( p > 1 ) ) & d = 1 ? p / d ; y : 7 ; y : [ f ] > s ? 1 ");
        Random random = new Random(6);
        for (int i = 0; i < 60; i++) {
            String peace = Texts.peace(random);
            if (fault(0, peace) == NONE && peace.length() <= 240) prefixesDue(0, peace);
            String law = Texts.law(random);
            if (law.length() <= 240) prefixesDue(1, law);
        }
        for (String early : new String[] {"y", "y:", "y:f+", "y:f=", "y:f=1", "y:f=1&", "y:f=1|", "y:f=1?", "y:!", "y:!f",
            "y:(", "y:(f=1", "y:(f=1)", "y:[", "y:[1", "y:1;", "y:1;y", "y:1;y:", "y:f=1?1+", "y:f=1?[1"}) {
            faultDue(1, early, early.length());
        }
        for (String early : new String[] {"g;gh1;", "g;gh", "g;gh1;m;", "g;gh1;mn", "s;", "sp"}) faultDue(0, early, early.length());
    }

    // ---- promise 5: text

    private static void taking() {
        says("The TAPE (empty then) is the PEACE: how many GLOVES; a LAW: its number. NONE: a FAULT, no such sort");
        GloveHouses x = new GloveHouses();
        due("an empty one as a PEACE", x.text(0), NONE);
        due("an empty one as a LAW", x.text(1), NONE);
        feed(x, "g;gh1");
        for (int sort : new int[] {-1, 2, Integer.MIN_VALUE, Integer.MAX_VALUE}) due("text(" + sort + ")", x.text(sort), NONE);
        due("a PEACE as a LAW", x.text(1), NONE);
        due("the TAPE stays", x.count(3), 5);
        due("no LAW", x.count(2), 0);
        due("text(0)", x.text(0), 2);
        due("the TAPE is empty", x.count(3), 0);
        due("it is no more on it", x.text(0), NONE);
        feed(x, "y:1");
        due("a LAW as a PEACE", x.text(0), NONE);
        due("the TAPE stays", x.count(3), 3);
        due("the PEACE stays", x.count(0), 2);
        due("text(1)", x.text(1), 0);
        due("the TAPE is empty", x.count(3), 0);
        due("a LAW does not hold yet", x.count(4), NONE);
        feed(x, "g;gh1;g;");
        due("a FAULT at the end", x.text(0), NONE);
        x.end(7);
        due("without it", x.text(0), 3);
        says("The FAULT of the TAPE: of what is on it now, whatever was read ahead of it");
        GloveHouses z = new GloveHouses();
        feed(z, "sp9k9;gf9s9a3h1;mw9n9;m;m;m;m;m");
        due("a sixth m", z.fault(0), 30);
        due("again", z.fault(0), 30);
        z.end(0);
        feed(z, "s;g;gh1;m;m;m;m;m");
        due("one s, two g, five m", z.fault(0), NONE);
        due("again", z.fault(0), NONE);
        due("text(0)", z.text(0), 2);
        due("PRIDE", z.rule(0), 4);
        due("WEIGHT", z.matter(0, 0), 3);
        feed(z, "s;gh1;g");
        due("another with an s", z.text(0), 2);
        due("MATTERS", z.count(1), 0);
        GloveHouses y = new GloveHouses();
        feed(y, "y:1");
        due("a LAW without a PEACE", y.text(1), 0);
        due("it can hold", y.law(0), true);
        due("no PEACE still", y.count(0), 0);
    }

    private static void fourLaws() {
        says("LAWS (4 at most) .. NONE: there are four LAWS.");
        GloveHouses x = with("sp0;gf0s0;gh1f0s0");
        for (int i = 0; i < 4; i++) {
            due("count(2)", x.count(2), i);
            due("law(" + i + ") ahead of it", x.law(i), false);
            feed(x, "y:" + (i + 1));
            due("text(1)", x.text(1), i);
            due("law(" + i + ")", x.law(i), true);
            due("it is this one", x.rises(0, 1), i + 1);
        }
        feed(x, "y:9");
        due("fault(1)", x.fault(1), NONE);
        due("a fifth one", x.text(1), NONE);
        due("the TAPE stays", x.count(3), 3);
        due("count(2)", x.count(2), 4);
        due("law(4)", x.law(4), false);
        due("law(-2)", x.law(-2), false);
        due("the one that held holds", x.rises(0, 1), 4);
        for (int i = 0; i < 4; i++) {
            x.law(i);
            due("each as told", x.rises(0, 1), i + 1);
        }
        due("law(NONE)", x.law(NONE), true);
        due("none", x.rises(0, 1), 2);
        due("law(NONE) again", x.law(NONE), true);
        says("False: no such one.");
        GloveHouses y = new GloveHouses();
        for (int law : new int[] {0, 1, -2, Integer.MIN_VALUE, Integer.MAX_VALUE}) due("law(" + law + ")", y.law(law), false);
        due("law(NONE) of none", y.law(NONE), true);
        due("count(4)", y.count(4), NONE);
    }

    private static void anotherPeace() {
        says("DAY 0; all that was of another one, SEEN, too, is gone but LAWS, which holds, SPITE, STATUS");
        GloveHouses x = with("sp9k99;gf9s9a3;g;g;gh1;gh1;gh1f9s9a3;mw9n0;m;m;m;mn0", "y:3", "y:5");
        x.law(0);
        x.spite(6);
        x.meets(0, 5);
        x.image();
        x.meets(0, 5);
        x.stuff(0, 10);
        x.days(61);
        x.days(3);
        x.loosen(0);
        x.meets(0, 5);
        x.seen(0, 5, 1, true);
        x.loosen(1);
        feed(x, "gh1;g;m");
        due("text(0)", x.text(0), 2);
        int[] counts = {2, 1, 2, 0, 0, 0, 0, 0, 6, 0, 0, 0};
        for (int i = 0; i < counts.length; i++) due("count(" + i + ")", x.count(i), counts[i]);
        statusDue(x, 0, 2, 2, 0, 0);
        due("PRIDE", x.rule(0), 4);
        due("COINS", x.rule(1), 20);
        int[][] gloves = {{1, 4, 3, 0, 0, 1}, {0, 4, 3, 0, 0, 2}};
        for (int i = 0; i < 12; i++) due("glove(" + i / 6 + ", " + i % 6 + ")", x.glove(i / 6, i % 6), gloves[i / 6][i % 6]);
        due("glove(2, 0)", glove(x, 2, 0), HIDDEN);
        due("matter(0, 0)", x.matter(0, 0), 3);
        due("matter(0, 2)", x.matter(0, 2), NONE);
        due("matter(1, 0)", x.matter(1, 0), -2);
        due("warmth(0, 1)", x.warmth(0, 1), 0);
        due("back()", x.back(), NONE);
        due("undo()", x.undo(), NONE);
        due("log(0, 0)", x.log(0, 0), NONE);
        due("fits(0, NONE)", x.fits(0, NONE), 10);
        due("the LAW holds", x.rises(0, 1), 3);
        due("the other LAW is there", x.law(1), true);
        due("it holds", x.rises(0, 1), 5);
        x.days(1);
        due("SIGNED on another's DAY", x.log(0, 1), 0);
        due("MET on another's DAY", x.log(0, 0), 0);
        feed(x, "gh1;g;m");
        due("the same once more", x.text(0), 2);
        due("DAY 0", x.count(5), 0);
    }

    // ---- WORTH

    /** Whether a CONDITION holds for two who are FREE 12, STUFFED 4, PRIDE 3, WARMTH 0, not AFTER the same, DAY 0. */
    private static void holdsDue(String condition, boolean want) {
        GloveHouses x = with("sp3;gf8s0a1;gh1f4s4", "y:" + condition + "?1;y:2");
        due(condition, x.rises(0, 1), want ? 1 : 2);
    }

    private static void heldNumbers() {
        says("Behind each sign numbers are within -1,000,000 .. 1,000,000");
        holdsDue("1000*1000=[9999*100+100]", true);
        holdsDue("1000*1000-1=9999*100+99", true);
        holdsDue("1000*1001=1000*1000", true);
        holdsDue("9999*9999=1000*1000", true);
        holdsDue("999*1001<1000*1000", true);
        holdsDue("999*1001=1000*1000-1", true);
        holdsDue("1000*1000+1=1000*1000", true);
        holdsDue("1000*1000+9999-9999<1000*1000", true);
        holdsDue("1000*1000+[9999-9999]=1000*1000", true);
        holdsDue("0-1000*1000=[0-9999]*9999", true);
        holdsDue("[0-1000]*1001=[0-1000]*1000", true);
        holdsDue("[0-999]*1001>[0-1000]*1000", true);
        holdsDue("0-1000*1000-1=0-1000*1000", true);
        holdsDue("0-1000*1000-9999+9999>0-1000*1000", true);
        holdsDue("[0-1000*1000]*[0-1000*1000]=1000*1000", true);
        holdsDue("[0-1000*1000]*[1000*1000]=0-1000*1000", true);
        holdsDue("1000*1000-[0-1000*1000]=1000*1000", true);
        holdsDue("9999*9999/9999=100", true);
        holdsDue("[0-9999]*9999/9999=0-100", true);
        says("held within -9 .. 9: the whole is held once, not each sign");
        holdsDue("100*3-299=1", true);
    }

    private static void cutting() {
        says("/ cuts towards 0, by 0 gives 0");
        holdsDue("7/2=3", true);
        holdsDue("1/2=0", true);
        holdsDue("8/4=2", true);
        holdsDue("[0-7]/2=0-3", true);
        holdsDue("[0-1]/2=0", true);
        holdsDue("7/[0-2]=0-3", true);
        holdsDue("[0-7]/[0-2]=3", true);
        holdsDue("7/0=0", true);
        holdsDue("0/0=0", true);
        holdsDue("[0-7]/0=0", true);
        holdsDue("7/a+1=1", true);
        holdsDue("7/[1-1]*5=0", true);
        says("SUM: TERMS with + or - between; TERM: ATOMS with * or / between");
        holdsDue("2+3*4=14", true);
        holdsDue("20-3*4=8", true);
        holdsDue("10-3-2=5", true);
        holdsDue("10-[3-2]=9", true);
        holdsDue("100/10/5=2", true);
        holdsDue("100/[10/5]=50", true);
        holdsDue("7/2*2=6", true);
        holdsDue("2*7/2=7", true);
        holdsDue("0012=12", true);
    }

    private static void worth() {
        says("one of = < >");
        holdsDue("f=12", true);
        holdsDue("f=11", false);
        holdsDue("f=13", false);
        holdsDue("f<12", false);
        holdsDue("f<13", true);
        holdsDue("f<11", false);
        holdsDue("f>12", false);
        holdsDue("f>11", true);
        holdsDue("f>13", false);
        for (int k = 11; k <= 13; k++) {
            holdsDue("!f=" + k, 12 != k);
            holdsDue("!f<" + k, 12 >= k);
            holdsDue("!f>" + k, 12 <= k);
            holdsDue("!!f<" + k, 12 < k);
            holdsDue("!!f>" + k, 12 > k);
            holdsDue("!(!f<" + k + "|!f>" + (k - 2) + ")", 12 < k);
        }
        says("CONDITION: TRUTHS with | between; TRUTH: UNITS with & between; UNIT: ! UNIT, ( CONDITION )");
        String[] units = {"1=0", "1=1"};
        for (int i = 0; i < 8; i++) {
            boolean p = i % 2 == 1;
            boolean q = i / 2 % 2 == 1;
            boolean r = i / 4 == 1;
            String a = units[i % 2];
            String b = units[i / 2 % 2];
            String c = units[i / 4];
            holdsDue(a + "|" + b + "&" + c, p || q && r);
            holdsDue(a + "&" + b + "|" + c, p && q || r);
            holdsDue("(" + a + "|" + b + ")&" + c, (p || q) && r);
            holdsDue(a + "&(" + b + "|" + c + ")", p && (q || r));
            holdsDue("!" + a + "&" + b + "|!" + c, !p && q || !r);
            holdsDue("!(" + a + "&" + b + ")|" + c, !(p && q) || r);
            holdsDue("!(" + a + "|" + b + "|" + c + ")", !(p || q || r));
            holdsDue("!!" + a + "&!!!" + b, p && !q);
            holdsDue(a + "|" + b + "|" + c, p || q || r);
            holdsDue(a + "&" + b + "&" + c, p && q && r);
        }
        says("WORTH: the SUM of the first CLAUSE whose CONDITION holds (or has none), 0 without.");
        worthDue("y:1=0?1", 0);
        worthDue("y:1=0?1;y:1=0?2;y:1=0?3", 0);
        worthDue("y:1=0?1;y:1=0?2;y:1=1?3", 3);
        worthDue("y:1=1?1;y:1=1?2;y:3", 1);
        worthDue("y:1=0?1;y:1=1?2;y:3", 2);
        worthDue("y:1=0?1;y:1=0?2;y:3", 3);
        worthDue("y:4;y:1=1?2;y:3", 4);
        worthDue("y:1=0?1;y:5;y:6", 5);
        says("letters: f .. s .. w .. a .. p .. d");
        worthDue("y:f-9", 3);
        worthDue("y:s", 4);
        worthDue("y:w", 0);
        worthDue("y:a", 0);
        worthDue("y:p", 3);
        worthDue("y:d", 0);
        StringBuilder longest = new StringBuilder("y:1");
        while (longest.length() < 239) longest.append("+0");
        worthDue(longest + " ", 1);
        worthDue("y:" + "f=0|".repeat(58) + "1=1?2", 2);
        worthDue("y:1=0?1" + ";y:1=0?1".repeat(28) + ";y:7", 7);
    }

    private static void worthDue(String law, int want) {
        due("WORTH by '" + law + "'", with("sp3;gf8s0a1;gh1f4s4", law).rises(0, 1), want);
    }
}
