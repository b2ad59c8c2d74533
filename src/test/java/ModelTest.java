import java.util.ArrayList;
import java.util.Arrays;
import java.util.List;

/** Long runs of calls, the same at every start, against the slow model. */
public final class ModelTest {
    private static final int RUNS = 1200;
    private static final int CALLS = 512;
    private static final int[] WILD = {Integer.MIN_VALUE, Integer.MAX_VALUE, -1, -2, 6, 7, 8, 10,
        11, 12, 20, 21, 99, 100, 255, 256, 999, 1000, 31, 32, 33, 64, -31, -32, 1 << 30};

    private static long seed;
    private static final Check check = new Check("ModelTest");

    public static void main(String[] args) {
        for (int run = 0; run < RUNS && check.wrongs() < 20; run++) {
            seed = 12345L + run * 7919L;
            run(run);
        }
        check.end();
    }

    private static int below(int n) {
        seed = seed * 6364136223846793005L + 1442695040888963407L;
        return (int) ((seed >>> 33) % n);
    }

    private static CarriedOne x;
    private static Model model;
    private static int calls;
    private static List<String> log;

    private static void run(int run) {
        x = new CarriedOne();
        model = new Model();
        calls = 0;
        log = new ArrayList<>();
        while (calls < CALLS && check.wrongs() < 20) {
            int kind = below(200);
            if (calls == 0 || kind == 0) {
                tell(run, goodText());
            } else if (kind == 1) {
                tell(run, spoilt(goodText()));
            } else {
                String name = Model.NAMES[1 + below(Model.NAMES.length - 1)];
                // With the text empty, books() takes all away: seldom, so that there is something to ask.
                if (name.equals("books") && below(20) > 0) name = "forgets";
                if (name.equals("type") && below(4) > 0) name = "lays";
                if (name.equals("clear") && below(4) > 0) name = "day";
                ask(run, name, arguments(name));
            }
        }
    }

    private static void tell(int run, String text) {
        for (int i = 0; i < text.length() && calls < CALLS; i++) {
            ask(run, "type", text.charAt(i));
        }
        if (calls < CALLS) ask(run, "books");
        if (calls < CALLS) ask(run, "count", 4);
        if (calls < CALLS && below(3) > 0) ask(run, "clear");
    }

    private static void ask(int run, String name, int... v) {
        calls++;
        String call = name + Arrays.toString(v);
        log.add(call);
        long got = Model.callReal(x, name, v);
        long want = model.call(name, v);
        check.due("run " + run + ", call " + calls + ": " + call, got, want);
    }

    private static String goodText() {
        StringBuilder text = new StringBuilder();
        int books = below(12) == 0 ? below(3) : below(3) == 0 ? 6 : 2 + below(5);
        for (int b = 0; b < books; b++) {
            text.append("b").append(number()).append(' ').append(number()).append(';');
        }
        int touches = books < 2 ? 0 : below(3 * books);
        boolean full = books > 3 && below(4) == 0;
        for (int x = 0; full && x < books; x++) {
            for (int y = x + 1; y < books; y++) text.append("t" + x + " " + y + ";");
        }
        for (int t = 0; t < touches && !full; t++) {
            int a = below(books);
            int b = (a + 1 + below(books - 1)) % books;
            text.append("t" + a + " " + b + ";");
        }
        String one = books > 0 && below(8) > 0 ? "o" + below(books) + ";" : "";
        if (text.length() + one.length() > 150) {
            text.setLength(150 - one.length());
            text.setLength(text.lastIndexOf(";") + 1);
        }
        return text.append(one).toString();
    }

    private static int number() {
        int kind = below(6);
        if (kind == 0) return below(10);
        if (kind == 1) return 999 - below(60);
        if (kind == 2) return 45 + below(15);
        return below(1000);
    }

    private static String spoilt(String text) {
        String signs = "bto0123456789; ;  \u0000A~\u00ff\t00ax";
        StringBuilder s = new StringBuilder(text);
        for (int i = 1 + below(3); i > 0; i--) {
            int at = below(s.length() + 1);
            char sign = signs.charAt(below(signs.length()));
            int how = below(4);
            if (how == 0) s.insert(at, sign);
            else if (how == 1 && at < s.length()) s.deleteCharAt(at);
            else if (how == 2 && at < s.length()) s.setCharAt(at, sign);
            else if (below(4) == 0) s.setLength(at);
            else s.insert(at, ' ');
        }
        return s.toString();
    }

    private static int[] arguments(String name) {
        int[] v = new int[Model.ARITY[List.of(Model.NAMES).indexOf(name)]];
        for (int i = 0; i < v.length; i++) {
            v[i] = below(60) == 0 ? WILD[below(WILD.length)] : likely(name, i);
        }
        return v;
    }

    private static int likely(String name, int i) {
        switch (name + i) {
            case "inDays0": return below(100);
            case "from1": case "lure1": case "saw0": return below(3) == 0 ? below(21) : below(6);
            case "odds0": return below(11);
            case "odds1": return below(7);
            case "odds3": case "forgets1": case "keep0": case "back0": case "saw2": case "lays2":
            case "traps1": case "round0": return below(2);
            case "hidden1": return below(2) == 0 ? 9 : 11;
            case "why0": case "lure2": return below(3);
            case "proofs0": return below(100);
            case "book1": return below(8);
            case "now0": return below(7);
            case "count0": return below(5);
            case "type0": return below(256);
            default: return below(8) == 0 ? below(6) : below(Math.max(1, (int) model.call("count", new int[1])));
        }
    }
}
