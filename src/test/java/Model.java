import java.math.BigInteger;
import java.util.ArrayList;
import java.util.List;

/**
 * The document once more, as slow and as near to its words as may be: days are lived
 * through one by one with THE ONE in its book, sets are tried out one by one.
 */
final class Model {
    static final int BAD = -1, STATE = -2, FULL = -3, NONE = -9, NO = -1000000;
    static final String[] NAMES = {"type", "clear", "books", "book", "forgets", "rights", "puts",
        "lays", "traps", "day", "undo", "now", "inDays", "round", "from", "lure", "cut", "odds",
        "saw", "forget", "fits", "hidden", "why", "proofs", "mark", "keep", "back", "count", "trace"};
    static final int[] ARITY = {1, 0, 0, 2, 2, 1, 1, 3, 2, 0, 0, 1, 1, 1, 2, 3, 1, 4, 3, 0, 0, 2, 1,
        1, 2, 1, 1, 1, 0};

    private static final class State implements Cloneable {
        boolean[][] forgotten = new boolean[6][2];
        boolean[][] touch = new boolean[6][6];
        boolean[] trap = new boolean[6];
        int one = NONE;
        int day = 0;

        State copy() {
            State s = new State();
            for (int i = 0; i < 6; i++) {
                s.forgotten[i] = forgotten[i].clone();
                s.touch[i] = touch[i].clone();
            }
            s.trap = trap.clone();
            s.one = one;
            s.day = day;
            return s;
        }
    }

    private StringBuilder text = new StringBuilder();
    private List<int[]> told = new ArrayList<>();
    private State now = new State();
    private List<State> undos = new ArrayList<>();
    private State[] images = new State[2];
    private List<List<State>> imageUndos = new ArrayList<>(List.of(List.of(), List.of()));
    private List<int[]> seen = new ArrayList<>();
    private long trace = 0;

    long call(String name, int[] v) {
        switch (name) {
            case "type": return type(v[0]);
            case "clear": return clear();
            case "books": return books();
            case "book": return book(v[0], v[1]);
            case "forgets": return forgets(v[0], v[1]);
            case "rights": return rights(v[0]);
            case "puts": return puts(v[0]);
            case "lays": return lays(v[0], v[1], v[2]);
            case "traps": return traps(v[0], v[1]);
            case "day": return day();
            case "undo": return undo();
            case "now": return now(v[0]);
            case "inDays": return inDays(v[0]);
            case "round": return round(v[0]);
            case "from": return from(v[0], v[1]);
            case "lure": return lure(v[0], v[1], v[2]);
            case "cut": return cut(v[0]);
            case "odds": return odds(v[0], v[1], v[2], v[3]);
            case "saw": return saw(v[0], v[1], v[2]);
            case "forget": return forget();
            case "fits": return fits();
            case "hidden": return hidden(v[0], v[1]);
            case "why": return why(v[0]);
            case "proofs": return proofs(v[0]);
            case "mark": return mark(v[0], v[1]);
            case "keep": return keep(v[0]);
            case "back": return back(v[0]);
            case "count": return count(v[0]);
            case "trace": return trace;
            default: throw new IllegalArgumentException(name);
        }
    }

    static long callReal(CarriedOne x, String name, int[] v) {
        switch (name) {
            case "type": return x.type(v[0]);
            case "clear": return x.clear();
            case "books": return x.books();
            case "book": return x.book(v[0], v[1]);
            case "forgets": return x.forgets(v[0], v[1]);
            case "rights": return x.rights(v[0]);
            case "puts": return x.puts(v[0]);
            case "lays": return x.lays(v[0], v[1], v[2]);
            case "traps": return x.traps(v[0], v[1]);
            case "day": return x.day();
            case "undo": return x.undo();
            case "now": return x.now(v[0]);
            case "inDays": return x.inDays(v[0]);
            case "round": return x.round(v[0]);
            case "from": return x.from(v[0], v[1]);
            case "lure": return x.lure(v[0], v[1], v[2]);
            case "cut": return x.cut(v[0]);
            case "odds": return x.odds(v[0], v[1], v[2], v[3]);
            case "saw": return x.saw(v[0], v[1], v[2]);
            case "forget": return x.forget();
            case "fits": return x.fits();
            case "hidden": return x.hidden(v[0], v[1]);
            case "why": return x.why(v[0]);
            case "proofs": return x.proofs(v[0]);
            case "mark": return x.mark(v[0], v[1]);
            case "keep": return x.keep(v[0]);
            case "back": return x.back(v[0]);
            case "count": return x.count(v[0]);
            case "trace": return x.trace();
            default: throw new IllegalArgumentException(name);
        }
    }

    // ---- the text

    private int type(int c) {
        if (c < 0 || c > 255) return BAD;
        if (text.length() == 150) return FULL;
        text.append((char) c);
        return text.length();
    }

    private int clear() {
        int had = text.length();
        text.setLength(0);
        return had;
    }

    private record Token(int place, String signs) { }

    // Cut up first: what begins no token, or is no number, is a token of its own that fits nowhere.
    private List<Token> tokens() {
        List<Token> all = new ArrayList<>();
        java.util.regex.Matcher m = java.util.regex.Pattern
            .compile("[a-z]+|[0-9]+|;|[^ ]", java.util.regex.Pattern.DOTALL).matcher(text);
        while (m.find()) all.add(new Token(m.start(), m.group()));
        all.add(new Token(text.length(), ""));
        return all;
    }

    private static boolean isNumber(Token t) {
        return t.signs.matches("0|[1-9][0-9]?[0-9]?");
    }

    private int books() {
        List<int[]> newBooks = new ArrayList<>();
        State state = new State();
        int items = 0;
        List<Integer> numbers = new ArrayList<>();
        String item = "";
        for (Token t : tokens()) {
            boolean stands;
            if (item.isEmpty()) {
                if (t.signs.isEmpty()) {
                    told = newBooks;
                    now = state;
                    undos.clear();
                    images = new State[2];
                    seen.clear();
                    text.setLength(0);
                    return items;
                }
                stands = t.signs.equals("b") && newBooks.size() < 6 || t.signs.equals("t")
                    || t.signs.equals("o") && state.one == NONE;
                item = t.signs;
                numbers.clear();
            } else if (numbers.size() < (item.equals("o") ? 1 : 2)) {
                stands = isNumber(t);
                if (stands) {
                    int n = Integer.parseInt(t.signs);
                    if (!item.equals("b")) stands = n < newBooks.size();
                    if (item.equals("t") && numbers.contains(n)) stands = false;
                    numbers.add(n);
                }
            } else {
                stands = t.signs.equals(";");
                if (stands) {
                    if (item.equals("b")) newBooks.add(new int[] {numbers.get(0), numbers.get(1)});
                    if (item.equals("o")) state.one = numbers.get(0);
                    if (item.equals("t")) {
                        state.touch[numbers.get(0)][numbers.get(1)] = true;
                        state.touch[numbers.get(1)][numbers.get(0)] = true;
                    }
                    items++;
                    item = "";
                }
            }
            if (!stands) return -10 - t.place;
        }
        throw new IllegalStateException("the text has no end");
    }

    // ---- the books

    private boolean bad(int b) {
        return b < 0 || b >= told.size();
    }

    private int sum(int b) {
        return told.get(b)[0] + told.get(b)[1];
    }

    // As one adds by hand, figure by figure.
    private boolean carry(int b, int place) {
        String x = String.format("%03d", told.get(b)[0]);
        String y = String.format("%03d", told.get(b)[1]);
        int carried = 0;
        for (int p = 0; p <= place; p++) {
            int together = (x.charAt(2 - p) - '0') + (y.charAt(2 - p) - '0') + carried;
            carried = together >= 10 ? 1 : 0;
        }
        return carried == 1;
    }

    private int written(State s, int b) {
        int w = sum(b);
        if (s.forgotten[b][0]) w -= 10;
        if (s.forgotten[b][1]) w -= 100;
        return w;
    }

    private int shown(State s, int b) {
        return written(s, b) + (s.one == b ? 10 : 0);
    }

    private int tens(State s, int b) {
        int v = shown(s, b);
        if (v < 0) return 0;
        String t = "0" + v;
        return t.charAt(t.length() - 2) - '0';
    }

    private int touches(State s) {
        int n = 0;
        for (int i = 0; i < 6; i++) for (int j = 0; j < i; j++) if (s.touch[i][j]) n++;
        return n;
    }

    private int book(int b, int what) {
        if (bad(b) || what < 0 || what > 7) return BAD;
        int bits = 0;
        switch (what) {
            case 0: return told.get(b)[0];
            case 1: return told.get(b)[1];
            case 2: return written(now, b);
            case 3: return shown(now, b);
            case 4: return (carry(b, 0) ? 1 : 0) + (carry(b, 1) ? 2 : 0);
            case 5: return (now.forgotten[b][0] ? 1 : 0) + (now.forgotten[b][1] ? 2 : 0);
            case 6:
                for (int o = 0; o < 6; o++) if (now.touch[b][o]) bits += 1 << o;
                return bits;
            default: return now.trap[b] ? 1 : 0;
        }
    }

    // ---- what is done

    private void remember() {
        undos.add(now.copy());
        if (undos.size() > 10) undos.remove(0);
    }

    private int forgets(int b, int place) {
        if (bad(b) || place < 0 || place > 1) return BAD;
        if (!carry(b, place) || now.forgotten[b][place]) return STATE;
        remember();
        now.forgotten[b][place] = true;
        return written(now, b);
    }

    private int rights(int b) {
        if (bad(b)) return BAD;
        int n = (now.forgotten[b][0] ? 1 : 0) + (now.forgotten[b][1] ? 1 : 0);
        if (n == 0) return STATE;
        remember();
        now.forgotten[b] = new boolean[2];
        return n;
    }

    private int puts(int b) {
        if (bad(b)) return BAD;
        if (now.one == b) return STATE;
        remember();
        int was = now.one;
        now.one = b;
        return was;
    }

    private int lays(int a, int b, int is) {
        if (bad(a) || bad(b) || a == b || is < 0 || is > 1) return BAD;
        if (now.touch[a][b] == (is == 1)) return STATE;
        remember();
        now.touch[a][b] = is == 1;
        now.touch[b][a] = is == 1;
        return touches(now);
    }

    private int traps(int b, int is) {
        if (bad(b) || is < 0 || is > 1) return BAD;
        if (now.trap[b] == (is == 1)) return STATE;
        remember();
        now.trap[b] = is == 1;
        return count(1);
    }

    private void live(State s) {
        int to = -1;
        int most = -1;
        if (s.one != NONE && !s.trap[s.one]) {
            for (int o = 0; o < told.size(); o++) {
                if (s.touch[s.one][o] && tens(s, o) > most) {
                    most = tens(s, o);
                    to = o;
                }
            }
        }
        if (to >= 0) s.one = to;
        s.day++;
    }

    private int day() {
        if (now.day == 999) return STATE;
        remember();
        live(now);
        return now.one;
    }

    private int undo() {
        if (undos.isEmpty()) return STATE;
        now = undos.remove(undos.size() - 1);
        return undos.size();
    }

    private int now(int what) {
        int n = 0;
        switch (what) {
            case 0: return now.day;
            case 1: return now.one;
            case 2:
                for (int b = 0; b < told.size(); b++) n += shown(now, b);
                return n;
            case 3:
                for (int b = 0; b < told.size(); b++) n += sum(b);
                return n;
            case 4: return unproven(9);
            case 5: return unproven(11);
            case 6: return touches(now);
            default: return BAD;
        }
    }

    private int unproven(int by) {
        int bits = 0;
        for (int b = 0; b < told.size(); b++) {
            if (Math.abs(shown(now, b) - sum(b)) % by != 0) bits += 1 << b;
        }
        return bits;
    }

    // ---- where it goes

    private int where(State from, int start, int days) {
        State s = from.copy();
        s.one = start;
        for (int i = 0; i < days; i++) live(s);
        return s.one;
    }

    private int inDays(int n) {
        if (n < 0 || n > 99) return BAD;
        return where(now, now.one, n);
    }

    private int round(int what) {
        if (what < 0 || what > 1) return BAD;
        if (now.one == NONE) return NONE;
        for (int first = 0; ; first++) {
            for (int length = 1; length <= 7; length++) {
                if (where(now, now.one, first) == where(now, now.one, first + length)) {
                    return what == 0 ? first : length;
                }
            }
        }
    }

    private int from(int b, int n) {
        if (bad(b) || n < 0 || n > 20) return BAD;
        int bits = 0;
        for (int s = 0; s < told.size(); s++) if (where(now, s, n) == b) bits += 1 << s;
        return bits;
    }

    private List<int[]> twos() {
        List<int[]> all = new ArrayList<>();
        for (int x = 0; x < 6; x++) for (int y = x + 1; y < 6; y++) all.add(new int[] {x, y});
        return all;
    }

    private int lure(int b, int n, int what) {
        if (bad(b) || n < 1 || n > 20 || what < 0 || what > 2) return BAD;
        if (now.one == NONE) return STATE;
        if (where(now, now.one, n) == b) return what == 0 ? 0 : NONE;
        List<int[]> free = new ArrayList<>();
        for (int[] t : twos()) if (t[1] < told.size() && !now.touch[t[0]][t[1]]) free.add(t);
        for (int[] t : free) {
            if (luredBy(b, n, t)) return what == 0 ? 1 : what == 1 ? 10 * t[0] + t[1] : NONE;
        }
        for (int i = 0; i < free.size(); i++) {
            for (int j = i + 1; j < free.size(); j++) {
                if (luredBy(b, n, free.get(i), free.get(j))) {
                    int[] t = free.get(what == 2 ? j : i);
                    return what == 0 ? 2 : 10 * t[0] + t[1];
                }
            }
        }
        return NONE;
    }

    private boolean luredBy(int b, int n, int[]... more) {
        State s = now.copy();
        for (int[] t : more) {
            s.touch[t[0]][t[1]] = true;
            s.touch[t[1]][t[0]] = true;
        }
        return where(s, s.one, n) == b;
    }

    private int cut(int b) {
        if (bad(b)) return BAD;
        if (now.one == NONE) return STATE;
        if (now.one == b) return NONE;
        List<int[]> twos = twos();
        int there = 0;
        for (int i = 0; i < 15; i++) if (now.touch[twos.get(i)[0]][twos.get(i)[1]]) there += 1 << i;
        int best = -1;
        for (int set = 0; set < 1 << 15; set++) {
            if ((set & ~there) != 0) continue;
            if (best >= 0 && Integer.bitCount(set) >= Integer.bitCount(best)) continue;
            if (isCut(set, b, twos)) best = set;
        }
        return best;
    }

    private boolean isCut(int set, int b, List<int[]> twos) {
        State s = now.copy();
        for (int i = 0; i < 15; i++) {
            if ((set >> i & 1) != 0) {
                s.touch[twos.get(i)[0]][twos.get(i)[1]] = false;
                s.touch[twos.get(i)[1]][twos.get(i)[0]] = false;
            }
        }
        for (int d = 0; d < 8; d++) {
            if (s.one == b) return false;
            live(s);
        }
        return true;
    }

    private int odds(int x, int n, int b, int what) {
        if (x < 0 || x > 10 || n < 0 || n > 6 || bad(b) || what < 0 || what > 1) return BAD;
        if (now.one == NONE) return STATE;
        BigInteger upper = BigInteger.valueOf(chances(now.copy(), x, n, b));
        BigInteger lower = BigInteger.TEN.pow(n);
        BigInteger by = upper.gcd(lower);
        return (what == 0 ? upper : lower).divide(by).intValue();
    }

    // Of ten, each day for itself: x times it stays, else it goes.
    private long chances(State s, int x, int n, int b) {
        if (n == 0) return s.one == b ? 1 : 0;
        State gone = s.copy();
        live(gone);
        return x * chances(s, x, n - 1, b) + (10 - x) * chances(gone, x, n - 1, b);
    }

    // ---- what was seen, what is wrong

    private int saw(int n, int b, int is) {
        if (n < 0 || n > 20 || bad(b) || is < 0 || is > 1) return BAD;
        if (seen.size() == 6) return FULL;
        seen.add(new int[] {n, b, is});
        return seen.size();
    }

    private int forget() {
        int had = seen.size();
        seen.clear();
        return had;
    }

    private int fits() {
        int bits = 0;
        for (int s = 0; s < told.size(); s++) {
            boolean fits = true;
            for (int[] one : seen) fits &= (where(now, s, one[0]) == one[1]) == (one[2] == 1);
            if (fits) bits += 1 << s;
        }
        return bits;
    }

    private int hidden(int b, int by) {
        if (bad(b) || by != 9 && by != 11) return BAD;
        String a = String.format("%03d", told.get(b)[0]);
        char h = a.charAt(0), t = a.charAt(1), o = a.charAt(2);
        String[] misread = {"" + h + o + t, "" + t + h + o, "" + o + t + h};
        int n = 0;
        if (carry(b, 0) && 10 % by == 0) n++;
        if (carry(b, 1) && 100 % by == 0) n++;
        if (10 % by == 0) n++;
        for (String m : misread) {
            int difference = Math.abs(Integer.parseInt(m) - Integer.parseInt(a));
            if (difference != 0 && difference % by == 0) n++;
        }
        return n;
    }

    private int why(int what) {
        if (what < 0 || what > 2) return BAD;
        List<int[]> carries = new ArrayList<>();
        for (int b = 0; b < told.size(); b++) {
            for (int p = 0; p < 2; p++) if (carry(b, p)) carries.add(new int[] {b, p});
        }
        int sets = 0;
        int each = -1;
        int some = 0;
        for (int set = 0; set < 1 << carries.size(); set++) {
            for (int one = -1; one < told.size(); one++) {
                int total = now(3) + (one >= 0 ? 10 : 0);
                int wrong = one >= 0 ? 1 << one : 0;
                for (int i = 0; i < carries.size(); i++) {
                    if ((set >> i & 1) != 0) {
                        total -= carries.get(i)[1] == 0 ? 10 : 100;
                        wrong |= 1 << carries.get(i)[0];
                    }
                }
                if (total == now(2)) {
                    sets++;
                    each &= wrong;
                    some |= wrong;
                }
            }
        }
        return what == 0 ? sets : what == 2 ? some : sets == 0 ? 0 : each;
    }

    // The best first proof asks of so many that the worse half needs fewest more.
    private int proofs(int k) {
        if (k < 0 || k > 99) return BAD;
        int[] least = new int[100];
        for (int n = 2; n < 100; n++) {
            least[n] = 100;
            for (int asked = 1; asked < n; asked++) {
                least[n] = Math.min(least[n], 1 + Math.max(least[asked], least[n - asked]));
            }
        }
        return least[k];
    }

    // ---- kinds, images

    private int mark(int kind, int b) {
        if (bad(b) || kind < 0 || kind > 5) return NO;
        int[] over = {-1, 0, 0, 1, 2, 0};
        int[] worth = {1, 10, 100, 1000, 10000, 100000};
        trace += worth[kind];
        int up = over[kind] < 0 ? 0 : mark(over[kind], b);
        switch (kind) {
            case 0: return shown(now, b);
            case 1: return up + tens(now, b);
            case 2: return up - sum(b);
            case 3: return up * 2;
            case 4: return up + Integer.bitCount(book(b, 6));
            default: return up + now.day;
        }
    }

    private int keep(int image) {
        if (image < 0 || image > 1) return BAD;
        images[image] = now.copy();
        List<State> copy = new ArrayList<>();
        for (State s : undos) copy.add(s.copy());
        imageUndos.set(image, copy);
        return now.day;
    }

    private int back(int image) {
        if (image < 0 || image > 1) return BAD;
        if (images[image] == null) return STATE;
        now = images[image].copy();
        undos = new ArrayList<>();
        for (State s : imageUndos.get(image)) undos.add(s.copy());
        return now.day;
    }

    private int count(int what) {
        int n = 0;
        switch (what) {
            case 0: return told.size();
            case 1:
                for (boolean t : now.trap) if (t) n++;
                return n;
            case 2: return seen.size();
            case 3: return undos.size();
            case 4: return text.length();
            default: return BAD;
        }
    }
}
