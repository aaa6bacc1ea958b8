import java.nio.charset.StandardCharsets;
import java.util.ArrayList;
import java.util.Collections;
import java.util.List;
import java.util.Random;

/** Texts for tests: how they come to the tape, and drawn ones. */
final class Texts {
    private Texts() {
    }

    /** The numbers by which feed takes a text, five a call. */
    static List<int[]> numbers(String text) {
        byte[] bytes = text.getBytes(StandardCharsets.ISO_8859_1);
        List<int[]> calls = new ArrayList<>();
        for (int from = 0; from < bytes.length; from += 20) {
            int[] five = new int[5];
            for (int i = from; i < Math.min(bytes.length, from + 20); i++) {
                five[(i - from) / 4] |= (bytes[i] & 255) << 24 - 8 * ((i - from) % 4);
            }
            calls.add(five);
        }
        return calls;
    }

    private static String gap(Random r) {
        return r.nextInt(12) == 0 ? " ".repeat(1 + r.nextInt(2)) : "";
    }

    private static String items(Random r, String letters, int... most) {
        List<String> items = new ArrayList<>();
        for (int i = 0; i < letters.length(); i++) {
            if (r.nextInt(4) == 0) continue;
            int v = r.nextInt(4) == 0 ? most[i] : r.nextInt(most[i] + 1);
            String digits = v < 10 && r.nextInt(6) == 0 ? "0" + v : "" + v;
            items.add(gap(r) + letters.charAt(i) + gap(r) + digits);
        }
        Collections.shuffle(items, r);
        return String.join("", items) + gap(r);
    }

    static String peace(Random r) {
        List<String> clauses = new ArrayList<>();
        if (r.nextInt(4) != 0) clauses.add("s" + items(r, "pk", 9, 99));
        int gloves = 2 + r.nextInt(5);
        for (int i = 0; i < gloves; i++) clauses.add("g" + items(r, "hfsa", 1, 9, 9, r.nextInt(4)));
        int matters = r.nextInt(6);
        for (int i = 0; i < matters; i++) clauses.add("m" + items(r, "wn", 9, new int[] {60, 20, 5}[r.nextInt(3)]));
        Collections.shuffle(clauses, r);
        return String.join(gap(r) + ";" + gap(r), clauses);
    }

    private static String sum(Random r, int deep) {
        StringBuilder t = new StringBuilder();
        int atoms = 1 + r.nextInt(r.nextBoolean() ? 2 : 4);
        for (int i = 0; i < atoms; i++) {
            if (i > 0) t.append(gap(r)).append("+-*/".charAt(r.nextInt(4))).append(gap(r));
            int sort = r.nextInt(8);
            if (sort == 0 && deep < 5) t.append("[").append(sum(r, deep + 1)).append("]");
            else if (sort < 5) t.append("fswapd".charAt(r.nextInt(6)));
            else t.append(r.nextInt(5) == 0 ? r.nextInt(10000) : r.nextInt(20));
        }
        return t.toString();
    }

    private static String unit(Random r, int deep) {
        int sort = r.nextInt(6);
        if (sort == 0 && deep < 4) return "!" + gap(r) + unit(r, deep + 1);
        if (sort == 1 && deep < 4) return "(" + gap(r) + condition(r, deep + 1) + ")";
        return sum(r, deep) + "=<>".charAt(r.nextInt(3)) + sum(r, deep);
    }

    private static String condition(Random r, int deep) {
        StringBuilder t = new StringBuilder(unit(r, deep));
        for (int i = r.nextInt(3); i > 0; i--) t.append("&|".charAt(r.nextInt(2))).append(gap(r)).append(unit(r, deep));
        return t.toString();
    }

    static String law(Random r) {
        StringBuilder t = new StringBuilder();
        for (int i = r.nextInt(4); i >= 0; i--) {
            if (t.length() > 0) t.append(gap(r)).append(";");
            t.append(gap(r)).append("y").append(gap(r)).append(":").append(gap(r));
            if (r.nextInt(3) != 0) t.append(condition(r, 0)).append("?").append(gap(r));
            t.append(sum(r, 0));
        }
        return t.toString();
    }

    /** One to three signs are put in, taken out or put in place of another. */
    static String broken(Random r, String text) {
        StringBuilder t = new StringBuilder(text);
        String signs = "ysgm;:?!()[]+-*/=<>&|fswapdhkn0123456789  \u00e9x";
        for (int i = r.nextInt(3); i >= 0; i--) {
            int at = r.nextInt(t.length() + 1);
            char c = signs.charAt(r.nextInt(signs.length()));
            int how = r.nextInt(4);
            if (how == 0) t.insert(at, c);
            else if (how == 1 && at < t.length()) t.deleteCharAt(at);
            else if (how == 2 && at < t.length()) t.setCharAt(at, c);
            else t.insert(at, at > 0 && r.nextBoolean() ? String.valueOf(t.charAt(at - 1)) : String.valueOf(c));
        }
        return t.toString();
    }
}
