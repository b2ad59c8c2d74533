import java.lang.management.ManagementFactory;

/**
 * Whatever is asked, in whatever state: no call throws, a refused one changes nothing, an
 * asking one changes nothing, and none makes an object.
 */
public final class RobustTest {
    private static final Check check = new Check("RobustTest");
    private static final int[] VALUES = {Integer.MIN_VALUE, Integer.MIN_VALUE + 1, -1000000, -10, -9, -3,
        -2, -1, 0, 1, 2, 3, 4, 5, 6, 7, 8, 9, 10, 11, 12, 15, 16, 20, 21, 31, 32, 33, 63, 64, 98, 99, 100,
        150, 255, 256, 998, 999, 1000, 65535, 65536, Integer.MAX_VALUE - 1, Integer.MAX_VALUE};
    private static final String[] TEXTS = {"", "b0 0;", "b1 2;b3 4;o1;", "b55 45;b5 5;b999 999;t0 1;t1 2;o0;",
        "b0 0;b10 0;b20 0;b30 0;b90 0;b55 45;t0 1;t0 2;t0 3;t0 4;t1 2;t1 3;t1 4;t2 3;t2 4;t3 4;t5 0;o0;"};

    public static void main(String[] args) {
        for (String text : TEXTS) {
            for (int call = 0; call < Model.NAMES.length; call++) allArguments(text, call);
        }
        bytes();
        objects();
        check.end();
    }

    private static CarriedOne lived(String text) {
        CarriedOne x = Check.told(text);
        x.forgets(0, 0);
        x.saw(2, 0, 1);
        x.keep(0);
        x.day();
        x.traps(1, 1);
        x.mark(3, 0);
        x.type(98);
        return x;
    }

    private static void allArguments(String text, int call) {
        int arity = Model.ARITY[call];
        long all = 1;
        for (int i = 0; i < arity; i++) all *= VALUES.length;
        // All of one, two, three numbers; of four a part of them.
        long step = all > 100000 ? 37 : 1;
        CarriedOne x = lived(text);
        long seenBefore = all(x);
        int[] v = new int[arity];
        for (long n = 0; n < all; n += step) {
            long rest = n;
            for (int i = 0; i < arity; i++) {
                v[i] = VALUES[(int) (rest % VALUES.length)];
                rest /= VALUES.length;
            }
            long got = ask(x, Model.NAMES[call], v);
            boolean refused = got == -1 || got == -2 || got == -3 || got == -1000000 || got <= -10 && call == 2;
            if (isAsking(Model.NAMES[call]) || refused && !Model.NAMES[call].equals("book")) {
                check.due("state behind " + Model.NAMES[call] + java.util.Arrays.toString(v), all(x), seenBefore);
            } else {
                x = lived(text);
            }
        }
    }

    private static long ask(CarriedOne x, String name, int[] v) {
        try {
            return Model.callReal(x, name, v);
        } catch (RuntimeException | Error e) {
            check.holds(name + java.util.Arrays.toString(v) + " throws " + e, false);
            return -1;
        }
    }

    private static boolean isAsking(String name) {
        return java.util.Set.of("book", "now", "inDays", "round", "from", "lure", "cut", "odds", "fits",
            "hidden", "why", "proofs", "count", "trace").contains(name);
    }

    // Everything that shows without changing anything, in one number.
    private static long all(CarriedOne x) {
        long sum = x.trace();
        for (int what = 0; what < 7; what++) sum = sum * 31 + x.now(what);
        for (int what = 0; what < 5; what++) sum = sum * 31 + x.count(what);
        for (int b = 0; b < 6; b++) {
            for (int what = 0; what < 8; what++) sum = sum * 31 + x.book(b, what);
        }
        return sum * 31 + x.fits();
    }

    private static void bytes() {
        for (int c = 0; c < 256; c++) {
            for (String ahead : new String[] {"", "b", "b1", "b1 ", "b1 2", "b1 2;", "b1 2;o", "b1 2;t"}) {
                CarriedOne x = Check.typed(ahead);
                x.type(c);
                ask(x, "books", new int[0]);
            }
        }
        for (String s : new String[] {"b", "9", "0", ";", " ", "t", "o", "b9", "b9 ", "b1 1;", "$"}) {
            CarriedOne x = Check.typed(s.repeat(150));
            long got = ask(x, "books", new int[0]);
            check.holds("a long text of " + s + " answers " + got, got <= -10 || s.isBlank() && got == 0);
        }
    }

    private static void objects() {
        java.lang.management.ThreadMXBean bean = ManagementFactory.getThreadMXBean();
        if (!(bean instanceof com.sun.management.ThreadMXBean)) return;
        com.sun.management.ThreadMXBean threads = (com.sun.management.ThreadMXBean) bean;
        if (!threads.isThreadAllocatedMemorySupported()) return;
        threads.setThreadAllocatedMemoryEnabled(true);
        long thread = Thread.currentThread().getId();
        CarriedOne x = lived(TEXTS[4]);
        int[] v = {1, 1, 1, 1};
        for (int round = 0; round < 2; round++) {
            long before = threads.getThreadAllocatedBytes(thread);
            for (int i = 0; i < 50; i++) {
                for (int call = 0; call < Model.NAMES.length; call++) {
                    if (call != 1 && call != 2) Model.callReal(x, Model.NAMES[call], v);
                }
            }
            long made = threads.getThreadAllocatedBytes(thread) - before;
            if (round == 1) check.holds("1350 calls made " + made + " bytes of objects", made < 4096);
        }
    }
}
