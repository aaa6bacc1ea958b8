import java.util.ArrayDeque;
import java.util.ArrayList;
import java.util.Arrays;
import java.util.Deque;
import java.util.LinkedHashMap;
import java.util.List;
import java.util.Map;
import java.util.NoSuchElementException;
import java.util.TreeMap;
import java.util.TreeSet;
import java.util.function.ToLongFunction;

/**
 * The document once more, written as plainly as can be and apart from the class:
 * faults by automata, laws as trees, every act kept as a whole copy.
 */
final class Oracle {
    static final int NONE = -1;
    static final int HIDDEN = -1000000;

    /** All that an IMAGE keeps. */
    static final class Now {
        int[][] warmth = new int[6][6];
        int[] free = new int[6];
        int[] stuffed = new int[6];
        List<TreeSet<Integer>> knows = new ArrayList<>();
        Map<Integer, Integer> met = new TreeMap<>();
        Map<Integer, Integer> signed = new TreeMap<>();
        TreeSet<Integer> today = new TreeSet<>();
        int pride;
        int coins;
        int day;
        List<int[]> log = new ArrayList<>();

        Now copy() {
            Now n = new Now();
            for (int i = 0; i < 6; i++) n.warmth[i] = warmth[i].clone();
            n.free = free.clone();
            n.stuffed = stuffed.clone();
            for (TreeSet<Integer> k : knows) n.knows.add(new TreeSet<>(k));
            n.met.putAll(met);
            n.signed.putAll(signed);
            n.today.addAll(today);
            n.pride = pride;
            n.coins = coins;
            n.day = day;
            n.log.addAll(log);
            return n;
        }
    }

    String tape = "";
    List<Map<Character, Integer>> gloves = new ArrayList<>();
    List<Map<Character, Integer>> matters = new ArrayList<>();
    Map<Character, Integer> rules = new LinkedHashMap<>();
    List<String> laws = new ArrayList<>();
    int holds = NONE;
    Now now = new Now();
    Now image;
    Deque<Now> acts = new ArrayDeque<>();
    List<int[]> seen = new ArrayList<>();
    int[] status = new int[5];
    int spite = 1;

    // ---- the tape and its texts

    int feed(int a, int b, int c, int d, int e) {
        StringBuilder more = new StringBuilder(tape);
        for (int v : new int[] {a, b, c, d, e}) {
            for (byte x : java.nio.ByteBuffer.allocate(4).putInt(v).array()) {
                if (x != 0) more.append((char) (x & 255));
            }
        }
        if (more.length() > 240) return NONE;
        tape = more.toString();
        return tape.length();
    }

    boolean end(int n) {
        if (n < 0 || n > tape.length()) return false;
        tape = tape.substring(0, n);
        return true;
    }

    int fault(int sort) {
        if (sort == 0) return peaceFault(tape, null);
        if (sort == 1) return lawFault(tape);
        return -2;
    }

    static final Map<Character, Map<Character, int[]>> ITEMS = Map.of(
        's', Map.of('p', new int[] {9, 4}, 'k', new int[] {99, 20}),
        'g', Map.of('h', new int[] {1, 0}, 'f', new int[] {9, 4}, 's', new int[] {9, 3}, 'a', new int[] {3, 0}),
        'm', Map.of('w', new int[] {9, 3}, 'n', new int[] {60, 10}));

    /** An automaton over single bytes; clauses, if not null, gets each clause as a map with its kind under '#'. */
    static int peaceFault(String t, List<Map<Character, Integer>> clauses) {
        List<Map<Character, Integer>> all = clauses == null ? new ArrayList<>() : clauses;
        int state = 0; // 0 a clause's letter is due, 1 an item, a ; or the end, 2 a number
        char letter = 0;
        for (int i = 0; i < t.length(); i++) {
            char c = t.charAt(i);
            if (c == ' ') continue;
            if (state == 0) {
                if (!ITEMS.containsKey(c)) return i;
                long there = all.stream().filter(m -> m.get('#') == c).count();
                if (there == (c == 's' ? 1 : c == 'g' ? 6 : 5)) return i;
                Map<Character, Integer> m = new LinkedHashMap<>();
                m.put('#', (int) c);
                all.add(m);
                state = 1;
            } else if (state == 1) {
                Map<Character, Integer> m = all.get(all.size() - 1);
                if (c == ';') {
                    state = 0;
                } else {
                    if (!ITEMS.get((char) (int) m.get('#')).containsKey(c) || m.containsKey(c)) return i;
                    letter = c;
                    state = 2;
                }
            } else {
                int j = i;
                while (j < t.length() && t.charAt(j) >= '0' && t.charAt(j) <= '9') j++;
                if (j == i) return i;
                if (j - i > 2) return i + 2;
                int v = Integer.parseInt(t.substring(i, j));
                Map<Character, Integer> m = all.get(all.size() - 1);
                if (v > ITEMS.get((char) (int) m.get('#')).get(letter)[0]) return j - 1;
                m.put(letter, v);
                i = j - 1;
                state = 1;
            }
        }
        if (state != 1) return t.length();
        TreeSet<Integer> houses = new TreeSet<>();
        for (Map<Character, Integer> m : all) if (m.get('#') == 'g') houses.add(m.getOrDefault('h', 0));
        return houses.size() == 2 ? NONE : t.length();
    }

    /** An automaton with a stack of ( [ ! and, at its foot, the clause. */
    static int lawFault(String t) {
        StringBuilder open = new StringBuilder(); // the open ( [ ! of this clause
        // state: 0 y is due, 1 : is due, 2 an operand is due, 3 behind an operand, 4 behind a whole UNIT
        int state = 0;
        boolean valueOnly = false; // behind the ?
        boolean mayBeUnit = true;  // ! or ( may stand here
        boolean compared = false;  // = < > stood already in this UNIT
        boolean asks = false;      // it is a CONDITION whose ? is still to come
        for (int i = 0; i < t.length(); i++) {
            char c = t.charAt(i);
            if (c == ' ') continue;
            boolean inBracket = open.indexOf("[") >= 0;
            switch (state) {
                case 0:
                    if (c != 'y') return i;
                    state = 1;
                    break;
                case 1:
                    if (c != ':') return i;
                    state = 2;
                    valueOnly = false;
                    mayBeUnit = true;
                    compared = false;
                    asks = false;
                    break;
                case 2:
                    if ((c == '!' || c == '(') && mayBeUnit && !valueOnly) {
                        if (open.length() == 6) return i;
                        open.append(c);
                        asks = true;
                    } else if (c == '[') {
                        if (open.length() == 6) return i;
                        open.append(c);
                        mayBeUnit = false;
                    } else if ("fswapd".indexOf(c) >= 0) {
                        state = 3;
                    } else if (Character.digit(c, 10) >= 0 && c < 128) {
                        int j = i;
                        while (j < t.length() && t.charAt(j) >= '0' && t.charAt(j) <= '9') j++;
                        if (j - i > 4) return i + 4;
                        i = j - 1;
                        state = 3;
                    } else {
                        return i;
                    }
                    break;
                case 3:
                case 4:
                    if (state == 3 && "+-*/".indexOf(c) >= 0) {
                        state = 2;
                        mayBeUnit = false;
                    } else if (state == 3 && c == ']' && inBracket) {
                        open.setLength(open.length() - 1);
                    } else if (state == 3 && "=<>".indexOf(c) >= 0 && !inBracket && !compared && !valueOnly) {
                        compared = true;
                        asks = true;
                        state = 2;
                        mayBeUnit = false;
                    } else if (!inBracket && !valueOnly && (state == 4 || compared) && "&|)?".indexOf(c) >= 0) {
                        // a whole UNIT stands: every ! directly around it ends with it
                        while (open.length() > 0 && open.charAt(open.length() - 1) == '!') open.setLength(open.length() - 1);
                        if (c == ')') {
                            if (open.length() == 0) return i;
                            open.setLength(open.length() - 1);
                            state = 4;
                        } else if (c == '?') {
                            if (open.length() > 0) return i;
                            valueOnly = true;
                            asks = false;
                            state = 2;
                            mayBeUnit = false;
                        } else {
                            state = 2;
                            mayBeUnit = true;
                        }
                        compared = false;
                    } else if (state == 3 && c == ';' && open.length() == 0 && !asks) {
                        state = 0;
                    } else {
                        return i;
                    }
                    break;
                default:
                    throw new IllegalStateException();
            }
        }
        return state == 3 && open.length() == 0 && !asks ? NONE : t.length();
    }

    int text(int sort) {
        if (sort == 1) {
            if (laws.size() == 4 || lawFault(tape) != NONE) return NONE;
            laws.add(tape.replace(" ", ""));
            tape = "";
            return laws.size() - 1;
        }
        List<Map<Character, Integer>> clauses = new ArrayList<>();
        if (sort != 0 || peaceFault(tape, clauses) != NONE) return NONE;
        gloves.clear();
        matters.clear();
        rules = usual('s', Map.of());
        for (Map<Character, Integer> m : clauses) {
            char kind = (char) (int) m.get('#');
            if (kind == 'g') gloves.add(usual('g', m));
            if (kind == 'm') matters.add(usual('m', m));
            if (kind == 's') rules = usual('s', m);
        }
        tape = "";
        now = new Now();
        for (int g = 0; g < gloves.size(); g++) {
            now.free[g] = gloves.get(g).get('f');
            now.stuffed[g] = gloves.get(g).get('s');
            now.knows.add(new TreeSet<>(List.of(g)));
        }
        now.pride = rules.get('p');
        now.coins = rules.get('k');
        image = null;
        acts.clear();
        seen.clear();
        return gloves.size();
    }

    static Map<Character, Integer> usual(char kind, Map<Character, Integer> told) {
        Map<Character, Integer> m = new LinkedHashMap<>();
        for (Map.Entry<Character, int[]> e : ITEMS.get(kind).entrySet()) {
            m.put(e.getKey(), told.getOrDefault(e.getKey(), e.getValue()[1]));
        }
        return m;
    }

    // ---- laws: split at the outermost sign that binds least, from the right

    static int splitAt(String t, String signs) {
        int deep = 0;
        for (int i = t.length() - 1; i >= 0; i--) {
            char c = t.charAt(i);
            if (c == ')' || c == ']') deep++;
            else if (c == '(' || c == '[') deep--;
            else if (deep == 0 && signs.indexOf(c) >= 0) return i;
        }
        return -1;
    }

    static long held(long v) {
        return Math.max(-1000000, Math.min(1000000, v));
    }

    static long sum(String t, ToLongFunction<Character> letter) {
        int at = splitAt(t, "+-");
        if (at < 0) at = splitAt(t, "*/");
        if (at >= 0) {
            long l = sum(t.substring(0, at), letter);
            long r = sum(t.substring(at + 1), letter);
            switch (t.charAt(at)) {
                case '+': return held(l + r);
                case '-': return held(l - r);
                case '*': return held(l * r);
                default: return r == 0 ? 0 : held(l / r);
            }
        }
        if (t.charAt(0) == '[') return sum(t.substring(1, t.length() - 1), letter);
        return Character.isDigit(t.charAt(0)) ? Long.parseLong(t) : letter.applyAsLong(t.charAt(0));
    }

    static boolean holdsTrue(String t, ToLongFunction<Character> letter) {
        int at = splitAt(t, "|");
        if (at >= 0) return holdsTrue(t.substring(0, at), letter) | holdsTrue(t.substring(at + 1), letter);
        at = splitAt(t, "&");
        if (at >= 0) return holdsTrue(t.substring(0, at), letter) & holdsTrue(t.substring(at + 1), letter);
        if (t.charAt(0) == '!') return !holdsTrue(t.substring(1), letter);
        if (t.charAt(0) == '(') return holdsTrue(t.substring(1, t.length() - 1), letter);
        at = splitAt(t, "=<>");
        long l = sum(t.substring(0, at), letter);
        long r = sum(t.substring(at + 1), letter);
        return t.charAt(at) == '=' ? l == r : t.charAt(at) == '<' ? l < r : l > r;
    }

    static long worth(String law, ToLongFunction<Character> letter) {
        for (String clause : law.split(";")) {
            String body = clause.substring(2);
            int q = body.indexOf('?');
            if (q < 0 || holdsTrue(body.substring(0, q), letter)) return sum(body.substring(q + 1), letter);
        }
        return 0;
    }

    int rise(int f, int s, int w, boolean a, int p, int d) {
        long v;
        if (holds == NONE) {
            v = f / 2 + (a ? 2 : 0) - p / 3 - s / 4;
        } else {
            v = worth(laws.get(holds), c -> c == 'f' ? f : c == 's' ? s : c == 'w' ? w : c == 'a' ? (a ? 1 : 0) : c == 'p' ? p : d);
        }
        return (int) Math.max(-9, Math.min(9, v));
    }

    int rise(Now n, int i, int j, int w, int d) {
        return rise(n.free[i] + n.free[j], n.stuffed[i] + n.stuffed[j], w, same(i, j), n.pride, Math.min(999, d));
    }

    // ---- who is who

    boolean is(int g) { return g >= 0 && g < gloves.size(); }
    boolean isM(int m) { return m >= 0 && m < matters.size(); }
    int house(int g) { return gloves.get(g).get('h'); }
    boolean unlike(int i, int j) { return is(i) && is(j) && house(i) != house(j); }
    boolean same(int i, int j) { return gloves.get(i).get('a').equals(gloves.get(j).get('a')); }
    boolean peace() { return !gloves.isEmpty(); }

    List<Integer> of(int house) {
        List<Integer> l = new ArrayList<>();
        for (int g = 0; g < gloves.size(); g++) if (house(g) == house) l.add(g);
        return l;
    }

    List<int[]> couples() {
        List<int[]> l = new ArrayList<>();
        for (int i = 0; i < 6; i++) for (int j = i + 1; j < 6; j++) if (unlike(i, j)) l.add(new int[] {i, j});
        return l;
    }

    static int bits(Iterable<Integer> set) {
        int b = 0;
        for (int i : set) b += 1 << i;
        return b;
    }

    int w(Now n, int i, int j) { return n.warmth[Math.min(i, j)][Math.max(i, j)]; }

    int all(Now n) {
        int sum = 0;
        for (int[] c : couples()) sum += w(n, c[0], c[1]);
        return sum;
    }

    // ---- what can be asked of it as it is

    int rule(int what) { return !peace() || what < 0 || what > 1 ? NONE : what == 0 ? now.pride : now.coins; }

    int glove(int g, int what) {
        if (!is(g) || what < 0 || what > 5) throw new NoSuchElementException();
        return new int[] {house(g), now.free[g], now.stuffed[g], gloves.get(g).get('a'),
            now.met.containsKey(g) ? 1 : 0, bits(now.knows.get(g))}[what];
    }

    int matter(int m, int what) {
        if (!isM(m) || what < 0 || what > 2) return -2;
        return new int[] {matters.get(m).get('w'), matters.get(m).get('n'), now.signed.getOrDefault(m, NONE)}[what];
    }

    int warmth(int i, int j) { return unlike(i, j) ? w(now, i, j) : NONE; }

    boolean law(int l) {
        if (l != NONE && (l < 0 || l >= laws.size())) return false;
        holds = l;
        return true;
    }

    // ---- acts

    int no(int why) {
        status[why]++;
        return NONE;
    }

    void act() {
        acts.addLast(now.copy());
        if (acts.size() > 40) acts.removeFirst();
    }

    void meet(Now n, int i, int j) {
        int low = Math.min(i, j);
        int high = Math.max(i, j);
        n.warmth[low][high] = Math.max(0, Math.min(99, w(n, i, j) + rise(n, i, j, w(n, i, j), n.day)));
        TreeSet<Integer> both = new TreeSet<>(n.knows.get(i));
        both.addAll(n.knows.get(j));
        n.knows.set(i, both);
        n.knows.set(j, new TreeSet<>(both));
        n.met.put(i, j);
        n.met.put(j, i);
        for (int m = 0; m < matters.size(); m++) {
            if (!n.signed.containsKey(m) && n.warmth[low][high] >= matters.get(m).get('n')) {
                n.signed.put(m, 10 * low + high);
                n.today.add(m);
                break;
            }
        }
    }

    void day(Now n) {
        if (n.day == 999) return;
        for (int[] c : couples()) {
            if (!Integer.valueOf(c[1]).equals(n.met.get(c[0]))) n.warmth[c[0]][c[1]] = Math.max(0, w(n, c[0], c[1]) - 1);
        }
        n.coins = Math.min(999, n.coins + 2);
        n.log.add(0, new int[] {n.met.size(), bits(n.today), all(n)});
        if (n.log.size() > 60) n.log.remove(60);
        n.met.clear();
        n.today.clear();
        n.day++;
    }

    int meets(int i, int j) {
        if (!is(i) || !is(j)) return no(0);
        if (house(i) == house(j)) return no(1);
        if (now.met.containsKey(i) || now.met.containsKey(j)) return no(2);
        if (now.coins < 1) return no(3);
        act();
        now.coins--;
        meet(now, i, j);
        return w(now, i, j);
    }

    int loosen(int g) {
        if (!is(g)) return no(0);
        if (now.free[g] == 9) return no(2);
        if (now.coins < 3) return no(3);
        act();
        now.coins -= 3;
        return ++now.free[g];
    }

    int stuff(int g, int v) {
        if (!is(g)) return no(0);
        if (v < 0 || v > 9) return no(1);
        if (now.stuffed[g] == v) return no(2);
        if (now.coins < 2) return no(3);
        act();
        now.coins -= 2;
        int was = now.stuffed[g];
        now.stuffed[g] = v;
        return was;
    }

    int swallow() {
        if (!peace()) return no(0);
        if (now.pride == 0) return no(2);
        if (now.coins < 4) return no(3);
        act();
        now.coins -= 4;
        return --now.pride;
    }

    int tear(int m) {
        if (!isM(m)) return no(0);
        if (!now.signed.containsKey(m)) return no(2);
        act();
        now.signed.remove(m);
        now.pride = Math.min(9, now.pride + 1);
        return now.pride;
    }

    int give(int n) {
        if (!peace()) return no(0);
        if (n < 1 || n > 50 || now.coins + n > 999) return no(1);
        act();
        return now.coins += n;
    }

    int days(int n) {
        if (!peace()) return no(0);
        if (n < 1 || n > 60) return no(1);
        if (now.day + n > 999) return no(4);
        for (int i = 0; i < n; i++) {
            act();
            day(now);
        }
        return now.day;
    }

    boolean spite(int v) {
        if (v < 0 || v > 9 || v == spite) return false;
        spite = v;
        return true;
    }

    java.math.BigInteger x;

    int draw(int j) {
        java.math.BigInteger round = java.math.BigInteger.ONE.shiftLeft(64);
        x = x.multiply(new java.math.BigInteger("6364136223846793005"))
            .add(new java.math.BigInteger("1442695040888963407")).mod(round);
        return x.shiftRight(33).mod(java.math.BigInteger.valueOf(j)).intValue();
    }

    int years(int n, long seed) {
        if (!peace() || n < 1 || n > 60 || now.day + n > 999) return NONE;
        x = java.math.BigInteger.valueOf(seed).mod(java.math.BigInteger.ONE.shiftLeft(64));
        for (int i = 0; i < n; i++) {
            act();
            for (int k = 0; k < 2; k++) {
                int a = draw(gloves.size());
                int b = draw(gloves.size());
                if (unlike(a, b) && !now.met.containsKey(a) && !now.met.containsKey(b)) meet(now, a, b);
            }
            if (draw(10) < spite) now.pride = Math.min(9, now.pride + 1);
            day(now);
        }
        return now.day;
    }

    int status(int what) { return what >= 0 && what < 5 ? status[what] : NONE; }

    int undo() {
        if (acts.isEmpty()) return NONE;
        now = acts.removeLast();
        return acts.size();
    }

    int log(int i, int what) { return i < 0 || i >= now.log.size() || what < 0 || what > 2 ? NONE : now.log.get(i)[what]; }

    // ---- apart

    int rises(int i, int j) { return unlike(i, j) ? rise(now, i, j, w(now, i, j), now.day) : HIDDEN; }

    int later(int i, int j, int n) {
        if (!unlike(i, j) || n < 0 || n > 60) return NONE;
        int v = w(now, i, j);
        for (int k = 0; k < n; k++) v = Math.max(0, Math.min(99, v + rise(now, i, j, v, now.day + k)));
        return v;
    }

    int soonest(int m, int what) {
        if (!isM(m) || what < 0 || what > 1) return NONE;
        for (int n = 0; n <= 60; n++) {
            for (int[] c : couples()) {
                if (later(c[0], c[1], n) >= matters.get(m).get('n')) return what == 0 ? 10 * c[0] + c[1] : n;
            }
        }
        return NONE;
    }

    /** Every number with so many digits, from the least on: the row and the sum. */
    int[] match(Now n) {
        List<Integer> rows = new ArrayList<>();
        for (int g : of(0)) if (!n.met.containsKey(g)) rows.add(g);
        int end = 1;
        for (int i = 0; i < rows.size(); i++) end *= 10;
        int[] best = null;
        row:
        for (int row = 0; row < end; row++) {
            TreeSet<Integer> used = new TreeSet<>();
            int sum = 0;
            int rest = row;
            for (int i = rows.size() - 1; i >= 0; i--) {
                int d = rest % 10;
                rest /= 10;
                if (d == 9) continue;
                if (!unlike(rows.get(i), d) || n.met.containsKey(d) || !used.add(d)) continue row;
                sum += rise(n, rows.get(i), d, w(n, rows.get(i), d), n.day);
            }
            if (best == null || sum > best[1]) best = new int[] {row, sum};
        }
        return best;
    }

    int pairs(int what) {
        if (!peace() || what < 0 || what > 1) return HIDDEN;
        if (what == 0 && now.met.keySet().containsAll(of(0))) return NONE;
        return match(now)[what];
    }

    int allKnow() {
        if (!peace()) return NONE;
        Now n = now.copy();
        for (int k = 0; k <= 30; k++) {
            boolean all = true;
            for (TreeSet<Integer> s : n.knows) all &= s.size() == gloves.size();
            if (all) return k;
            List<Integer> rows = new ArrayList<>();
            for (int g : of(0)) if (!n.met.containsKey(g)) rows.add(g);
            if (!rows.isEmpty()) {
                String row = String.format("%0" + rows.size() + "d", match(n)[0]);
                for (int i = 0; i < rows.size(); i++) if (row.charAt(i) != '9') meet(n, rows.get(i), row.charAt(i) - '0');
            }
            day(n);
        }
        return NONE;
    }

    int seen(int i, int j, int v, boolean is) {
        if (!unlike(i, j) || v < -9 || v > 9 || seen.size() == 10) return NONE;
        seen.add(new int[] {i, j, v, is ? 1 : 0});
        return seen.size();
    }

    int asTold(int g, int free, int other) {
        return rise(free + gloves.get(other).get('f'), gloves.get(g).get('s') + gloves.get(other).get('s'), 0,
            same(g, other), rules.get('p'), 0);
    }

    List<Integer> fitting(int g) {
        List<Integer> l = new ArrayList<>();
        for (int f = 0; f < 10; f++) {
            boolean ok = true;
            for (int[] s : seen) {
                if (s[0] == g) ok &= asTold(g, f, s[1]) >= s[2] == (s[3] == 1);
                if (s[1] == g) ok &= asTold(g, f, s[0]) >= s[2] == (s[3] == 1);
            }
            if (ok) l.add(f);
        }
        return l;
    }

    int fits(int g, int i) {
        if (!is(g)) return NONE;
        List<Integer> l = fitting(g);
        return i == NONE ? l.size() : i >= 0 && i < l.size() ? l.get(i) : NONE;
    }

    int ask(int g, int v) {
        if (!is(g) || v < -9 || v > 9 || fitting(g).isEmpty()) return NONE;
        TreeMap<Integer, Integer> best = new TreeMap<>();
        for (int o : of(1 - house(g))) {
            int more = 0;
            int less = 0;
            for (int f : fitting(g)) if (asTold(g, f, o) >= v) more++; else less++;
            best.putIfAbsent(Math.abs(more - less), o);
        }
        return best.firstEntry().getValue();
    }

    int game(int x, int y, int what) {
        if (!peace() || x < 0 || x > 4 || y < 0 || y > 4 || what < 0 || what > 1) return HIDDEN;
        boolean xs = x < of(0).size();
        boolean ys = y < of(1).size();
        if (!xs && !ys) return -20;
        if (!xs) return what == 0 ? -20 : 0;
        if (!ys) return what == 1 ? -20 : 0;
        int i = of(0).get(x);
        int j = of(1).get(y);
        return rises(i, j) - now.free[what == 0 ? i : j] / 3;
    }

    int sure(int house) {
        if (!peace() || house < 0 || house > 1) return HIDDEN;
        int best = Integer.MIN_VALUE;
        for (int o = 0; o < of(house).size(); o++) {
            int least = Integer.MAX_VALUE;
            for (int t = 0; t < of(1 - house).size(); t++) {
                least = Math.min(least, house == 0 ? game(o, t, 0) : game(t, o, 1));
            }
            best = Math.max(best, least);
        }
        return best;
    }

    int rests(int i) {
        if (!peace()) return NONE;
        List<Integer> l = new ArrayList<>();
        for (int x = 0; x < of(0).size(); x++) {
            for (int y = 0; y < of(1).size(); y++) {
                boolean rest = true;
                for (int k = 0; k < 5; k++) {
                    rest &= game(k, y, 0) <= game(x, y, 0) && game(x, k, 1) <= game(x, y, 1);
                }
                if (rest) l.add(10 * x + y);
            }
        }
        return i == NONE ? l.size() : i >= 0 && i < l.size() ? l.get(i) : NONE;
    }

    int odds(int m, int i, int j, int n, int chance) {
        if (!isM(m) || !unlike(i, j) || n < 0 || n > 8 || chance < 0 || chance > 100) return NONE;
        List<long[]> parts = new ArrayList<>(); // how many, WARMTH
        parts.add(new long[] {1000000000L, w(now, i, j)});
        long hits = 0;
        for (int k = 0; k < n; k++) {
            List<long[]> next = new ArrayList<>();
            for (long[] p : parts) {
                long q = p[0] * chance / 100;
                int up = (int) Math.max(0, Math.min(99, p[1] + rise(now, i, j, (int) p[1], now.day + k)));
                next.add(new long[] {q, p[1] / 2});
                next.add(new long[] {p[0] - q, up});
            }
            parts.clear();
            for (long[] p : next) if (p[1] >= matters.get(m).get('n')) hits += p[0]; else parts.add(p);
        }
        return (int) hits;
    }

    int shares(int house, int c) {
        if (!peace() || house < 0 || house > 1 || c < 0 || c > 999) return NONE;
        int own = 0;
        for (int g : of(house)) own += now.free[g];
        int all = Arrays.stream(now.free).sum();
        return all == 0 ? 0 : c * own / all;
    }

    int most(int what) {
        if (!peace() || what < 0 || what > 8) return NONE;
        switch (what) {
            case 0: return bits(now.met.keySet());
            case 1: return bits(now.signed.keySet());
            case 2: return couples().stream().max((a, b) -> w(now, a[0], a[1]) != w(now, b[0], b[1])
                ? w(now, a[0], a[1]) - w(now, b[0], b[1]) : b[0] * 10 + b[1] - a[0] * 10 - a[1]).map(a -> a[0] * 10 + a[1]).get();
            case 3: return couples().stream().min((a, b) -> w(now, a[0], a[1]) != w(now, b[0], b[1])
                ? w(now, a[0], a[1]) - w(now, b[0], b[1]) : a[0] * 10 + a[1] - b[0] * 10 - b[1]).map(a -> a[0] * 10 + a[1]).get();
            case 4: return top(now.free, gloves.size());
            case 5: return top(now.stuffed, gloves.size());
            case 6: return top(matters.stream().mapToInt(m -> m.get('w')).toArray(), matters.size());
            case 7: return now.signed.keySet().stream().mapToInt(m -> matters.get(m).get('w')).sum();
            default:
                TreeSet<Integer> due = new TreeSet<>();
                for (int m = 0; m < matters.size(); m++) {
                    for (int[] c : couples()) {
                        if (!now.signed.containsKey(m) && w(now, c[0], c[1]) >= matters.get(m).get('n')) due.add(m);
                    }
                }
                return bits(due);
        }
    }

    static int top(int[] row, int n) {
        int best = NONE;
        for (int i = n - 1; i >= 0; i--) if (best == NONE || row[i] >= row[best]) best = i;
        return best;
    }

    int allies(int g) {
        if (!is(g)) return NONE;
        TreeSet<Integer> l = new TreeSet<>();
        for (int o : of(1 - house(g))) if (same(g, o)) l.add(o);
        return bits(l);
    }

    int image() {
        if (!peace()) return NONE;
        image = now.copy();
        return now.day;
    }

    int back() {
        if (image == null) return NONE;
        now = image.copy();
        acts.clear();
        return now.day;
    }

    int count(int what) {
        if (what < 0 || what > 11) return HIDDEN;
        return new int[] {gloves.size(), matters.size(), laws.size(), tape.length(), holds, now.day, all(now),
            now.met.size(), spite, seen.size(), now.log.size(), acts.size()}[what];
    }
}
