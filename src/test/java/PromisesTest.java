/** Each promise of the document by itself: ordinary inputs, edges, wrong inputs. */
public final class PromisesTest {
    private static final int BAD = -1, STATE = -2, FULL = -3, NONE = -9, NO = -1000000;
    private static final int LEAST = Integer.MIN_VALUE, MOST = Integer.MAX_VALUE;
    private static final Check check = new Check("PromisesTest");

    // Books 58+67, 105+20, 499+501, 7+5, 250+249; tens 2, 2, 0, 1, 9; THE ONE in book 0.
    private static final String FIVE = "b58 67;b105 20;b499 501;b7 5; b250 249;"
        + "t0 1;t1 2;t2 0;t3 4;t1 3;o0;";
    // A way of six books whose tens grow: 10, 20, .. 60; THE ONE at its begin.
    private static final String WAY = "b10 0;b20 0;b30 0;b40 0;b50 0;b60 0;"
        + "t0 1;t1 2;t2 3;t3 4;t4 5;o0;";
    private static final String THREE = "b55 55;b10 10;b5 5;";

    public static void main(String[] args) {
        promise01();
        promise02();
        promise03();
        promise04();
        promise05();
        promise06();
        promise07();
        promise08();
        promise09();
        promise10();
        promise11();
        promise12();
        promise13();
        promise14();
        promise15();
        promise16();
        promise17();
        promise18();
        promise19();
        promise20();
        promise21();
        promise22();
        promise23();
        promise24();
        promise25();
        promise26();
        promise27();
        promise28();
        promise29();
        promise30();
        check.end();
    }

    private static void due(String call, long got, long want) {
        check.due(call, got, want);
    }

    // A new object
    private static void promise01() {
        CarriedOne x = new CarriedOne();
        for (int what = 0; what < 5; what++) due("1: count(" + what + ")", x.count(what), 0);
        for (int what = 0; what < 7; what++) due("1: now(" + what + ")", x.now(what), what == 1 ? NONE : 0);
        due("1: trace", x.trace(), 0);
        due("1: fits", x.fits(), 0);
        due("1: why(0)", x.why(0), 1);
        due("1: why(1)", x.why(1), 0);
        due("1: why(2)", x.why(2), 0);
        due("1: book(0, 0)", x.book(0, 0), BAD);
        due("1: undo", x.undo(), STATE);
        due("1: back(0)", x.back(0), STATE);
        due("1: back(1)", x.back(1), STATE);
        due("1: BAD", CarriedOne.BAD, BAD);
        due("1: STATE", CarriedOne.STATE, STATE);
        due("1: FULL", CarriedOne.FULL, FULL);
        due("1: NONE", CarriedOne.NONE, NONE);
        due("1: NO", CarriedOne.NO, NO);
    }

    // type
    private static void promise02() {
        CarriedOne x = new CarriedOne();
        due("2: type(0)", x.type(0), 1);
        due("2: type(255)", x.type(255), 2);
        for (int c : new int[] {-1, 256, LEAST, MOST}) due("2: type(" + c + ")", x.type(c), BAD);
        due("2: count(4)", x.count(4), 2);
        for (int i = 3; i <= 150; i++) due("2: type, byte " + i, x.type(32), i);
        due("2: type beyond 150", x.type(32), FULL);
        due("2: type(-1) beyond 150", x.type(-1), BAD);
        due("2: type(256) beyond 150", x.type(256), BAD);
        due("2: count(4), full", x.count(4), 150);
        due("2: clear, full", x.clear(), 150);
        due("2: type, empty again", x.type(98), 1);
    }

    // clear
    private static void promise03() {
        CarriedOne x = Check.told("b1 2;o0;");
        due("3: clear, empty", x.clear(), 0);
        Check.type(x, "b3 4;");
        due("3: clear", x.clear(), 5);
        due("3: count(4)", x.count(4), 0);
        due("3: count(0)", x.count(0), 1);
        due("3: book(0, 0)", x.book(0, 0), 1);
        Check.type(x, "b5 6;");
        due("3: books", x.books(), 1);
        due("3: book(0, 0), anew", x.book(0, 0), 5);
    }

    private static void fault(String text, int place) {
        CarriedOne x = Check.told("b1 2;b3 4;t0 1;o1;");
        Check.type(x, text);
        due("4: books of \"" + text + "\"", x.books(), -10 - place);
        due("4: count(4), \"" + text + "\"", x.count(4), text.length());
        due("4: count(0), \"" + text + "\"", x.count(0), 2);
        due("4: now(1), \"" + text + "\"", x.now(1), 1);
        due("4: now(6), \"" + text + "\"", x.now(6), 1);
    }

    // books
    private static void promise04() {
        String[] items = {"", "   ", "b0 0;", " b 999  999 ; ", "b1 2;b3 4;t0 1;t1 0;t0 1;o1;",
            "b0 0;o0;b1 1;t0 1;"};
        int[] many = {0, 0, 1, 1, 6, 4};
        int[] size = {0, 0, 1, 1, 2, 2};
        for (int i = 0; i < items.length; i++) {
            CarriedOne x = Check.typed(items[i]);
            due("4: books of \"" + items[i] + "\"", x.books(), many[i]);
            due("4: count(0), \"" + items[i] + "\"", x.count(0), size[i]);
            due("4: count(4), \"" + items[i] + "\"", x.count(4), 0);
        }
        fault("b", 1);
        fault("b 1", 3);
        fault("b 1 2", 5);
        fault("b 1 2  ", 7);
        fault("b1 2;t0", 7);
        fault("b1 2;o", 6);
        fault("b1;", 2);
        fault("b;", 1);
        fault("b1 b2;", 3);
        fault("b1 2 3;", 5);
        fault(";", 0);
        fault("  ;", 2);
        fault("7;", 0);
        fault("bb1 2;", 0);
        fault("b1 2;to0 1;", 5);
        fault("x1;", 0);
        fault("b1 2;;", 5);
        fault("b1000 2;", 1);
        fault("b1 1000;", 3);
        fault("b99999999999999999999 2;", 1);
        fault("b4294967297 2;", 1);
        fault("b00 2;", 1);
        fault("b1 01;", 3);
        fault("b1 -2;", 3);
        fault("B1 2;", 0);
        fault("b1\t2;", 2);
        fault("b1 2;\u0000", 5);
        fault("b1 2;\u00ff", 5);
        fault("b1 2$;", 4);
        fault("t0 1;", 1);
        fault("o0;", 1);
        fault("b1 2;o1;", 6);
        fault("b1 2;t1 0;", 6);
        fault("b1 2;t0 1;", 8);
        fault("b1 2;t0 0;", 8);
        fault("b1 2;o0;o0;", 8);
        fault("b1 2;o0;o7;", 8);
        fault("b1 2;o00;", 6);
        fault("b1 2;t0 1 2;", 8);
        fault("b1 2; x b", 6);
        fault("b1 2;b1 2;b1 2;b1 2;b1 2;b1 2;b1 2;", 30);
        booksAnew();
    }

    private static void booksAnew() {
        CarriedOne x = Check.told(FIVE);
        x.forgets(0, 0);
        x.traps(1, 1);
        x.day();
        x.saw(1, 1, 1);
        x.keep(0);
        x.mark(0, 0);
        Check.type(x, "b58 67;");
        due("4: books anew", x.books(), 1);
        due("4: now(0) anew", x.now(0), 0);
        due("4: now(1) anew", x.now(1), NONE);
        due("4: now(6) anew", x.now(6), 0);
        due("4: book(0, 2) anew", x.book(0, 2), 125);
        due("4: book(0, 5) anew", x.book(0, 5), 0);
        due("4: book(1, 0) anew", x.book(1, 0), BAD);
        due("4: count(1) anew", x.count(1), 0);
        due("4: count(2) anew", x.count(2), 0);
        due("4: count(3) anew", x.count(3), 0);
        due("4: back(0) anew", x.back(0), STATE);
        due("4: undo anew", x.undo(), STATE);
        due("4: trace anew", x.trace(), 1);
        due("4: now(2) anew", x.now(2), 125);
        due("4: now(3) anew", x.now(3), 125);
        due("4: why(0) anew", x.why(0), 2);
        due("4: fits anew", x.fits(), 1);
        CarriedOne y = Check.typed("b1 2");
        due("4: books, too early", y.books(), -14);
        y.type(';');
        due("4: books, typed on", y.books(), 1);
        due("4: books, no text", y.books(), 0);
        due("4: count(0), no text", y.count(0), 0);
    }

    // book
    private static void promise05() {
        CarriedOne x = Check.told(FIVE);
        int[][] want = {{58, 67, 125, 135, 3, 0, 6, 0}, {105, 20, 125, 125, 0, 0, 13, 0},
            {499, 501, 1000, 1000, 3, 0, 3, 0}, {7, 5, 12, 12, 1, 0, 18, 0}, {250, 249, 499, 499, 0, 0, 8, 0}};
        for (int b = 0; b < 5; b++) {
            for (int what = 0; what < 8; what++) {
                due("5: book(" + b + ", " + what + ")", x.book(b, what), want[b][what]);
            }
        }
        x.forgets(0, 1);
        x.traps(0, 1);
        due("5: written, forgotten", x.book(0, 2), 25);
        due("5: shown, forgotten", x.book(0, 3), 35);
        due("5: carries, forgotten", x.book(0, 4), 3);
        due("5: forgotten", x.book(0, 5), 2);
        due("5: trap", x.book(0, 7), 1);
        for (int bad : new int[] {-1, 5, 6, 32, LEAST, MOST}) due("5: book(" + bad + ", 0)", x.book(bad, 0), BAD);
        for (int bad : new int[] {-1, 8, LEAST, MOST}) due("5: book(0, " + bad + ")", x.book(0, bad), BAD);
        // The carry ahead of the tens counts, and only the carry of A and B.
        CarriedOne y = Check.told("b55 45;b50 45;b999 1;b900 900;b5 4;");
        int[] carries = {3, 0, 3, 0, 0};
        for (int b = 0; b < 5; b++) due("5: carries of " + b, y.book(b, 4), carries[b]);
        y.forgets(0, 0);
        due("5: carry of tens stays", y.book(0, 4), 3);
        // Only the figure of the tens counts, not what is ahead of it.
        CarriedOne z = Check.told("b919 80;b80 919;b109 100;b100 109;b199 1;b1 199;");
        int[] figures = {0, 0, 0, 0, 3, 3};
        for (int b = 0; b < 6; b++) due("5: carries by figures of " + b, z.book(b, 4), figures[b]);
        CarriedOne six = Check.told("b0 0;b0 0;b0 0;b0 0;b0 0;b0 0;t1 2;t5 0;t3 4;t2 3;t1 3;");
        int[] touching = {32, 12, 10, 22, 8, 1};
        for (int b = 0; b < 6; b++) due("5: six, touching " + b, six.book(b, 6), touching[b]);
    }

    // forgets
    private static void promise06() {
        CarriedOne x = Check.told("b55 45;b60 50;b1 9;b1 1;o0;");
        for (int bad : new int[] {-1, 4, LEAST, MOST}) {
            due("6: forgets(" + bad + ", 0)", x.forgets(bad, 0), BAD);
        }
        for (int bad : new int[] {-1, 2, LEAST, MOST}) {
            due("6: forgets(0, " + bad + ")", x.forgets(0, bad), BAD);
            due("6: forgets(3, " + bad + ")", x.forgets(3, bad), BAD);
        }
        due("6: forgets(1, 0), no carry", x.forgets(1, 0), STATE);
        due("6: forgets(2, 1), no carry", x.forgets(2, 1), STATE);
        due("6: forgets(3, 0), no carry", x.forgets(3, 0), STATE);
        due("6: count(3), refused", x.count(3), 0);
        due("6: forgets(0, 0)", x.forgets(0, 0), 90);
        due("6: forgets(0, 0), again", x.forgets(0, 0), STATE);
        due("6: forgets(0, 1)", x.forgets(0, 1), -10);
        due("6: forgets(1, 1)", x.forgets(1, 1), 10);
        due("6: forgets(2, 0)", x.forgets(2, 0), 0);
        due("6: count(3)", x.count(3), 4);
        due("6: shown", x.book(0, 3), 0);
    }

    // rights
    private static void promise07() {
        CarriedOne x = Check.told("b55 45;b60 50;");
        due("7: rights(0), nothing", x.rights(0), STATE);
        x.forgets(0, 0);
        x.forgets(0, 1);
        x.forgets(1, 1);
        for (int bad : new int[] {-1, 2, LEAST, MOST}) due("7: rights(" + bad + ")", x.rights(bad), BAD);
        due("7: rights(0)", x.rights(0), 2);
        due("7: written", x.book(0, 2), 100);
        due("7: the other", x.book(1, 5), 2);
        due("7: rights(1)", x.rights(1), 1);
        due("7: rights(1), again", x.rights(1), STATE);
        due("7: count(3)", x.count(3), 5);
        due("7: forgets after rights", x.forgets(0, 1), 0);
        CarriedOne six = Check.told("b55 45;b55 45;b55 45;b55 45;b55 45;b55 45;");
        for (int b = 0; b < 6; b++) {
            six.forgets(b, b % 2);
            six.forgets(b, 1 - b % 2);
        }
        for (int b = 5; b >= 0; b--) {
            due("7: rights, of six", six.rights(b), 2);
            for (int o = 0; o < 6; o++) due("7: others of six", six.book(o, 5), o < b ? 3 : 0);
        }
    }

    // puts
    private static void promise08() {
        CarriedOne x = Check.told("b1 1;b2 2;");
        for (int bad : new int[] {-1, -9, 2, LEAST, MOST}) due("8: puts(" + bad + ")", x.puts(bad), BAD);
        due("8: puts(1)", x.puts(1), NONE);
        due("8: puts(1), again", x.puts(1), STATE);
        due("8: puts(0)", x.puts(0), 1);
        due("8: now(1)", x.now(1), 0);
        due("8: count(3)", x.count(3), 2);
        x.traps(0, 1);
        due("8: puts out of a trap", x.puts(1), 0);
        due("8: shown", x.book(1, 3), 14);
    }

    // lays
    private static void promise09() {
        CarriedOne x = Check.told("b1 1;b2 2;b3 3;");
        due("9: lays(0, 1, 0), apart", x.lays(0, 1, 0), STATE);
        due("9: lays(0, 1, 1)", x.lays(0, 1, 1), 1);
        due("9: lays(1, 0, 1), again", x.lays(1, 0, 1), STATE);
        due("9: lays(2, 0, 1)", x.lays(2, 0, 1), 2);
        for (int bad : new int[] {-1, 3, LEAST, MOST}) {
            due("9: lays(" + bad + ", 0, 1)", x.lays(bad, 0, 1), BAD);
            due("9: lays(0, " + bad + ", 1)", x.lays(0, bad, 1), BAD);
            due("9: lays(0, 1, " + bad + ")", x.lays(0, 1, bad == 3 ? 2 : bad), BAD);
        }
        due("9: lays(1, 1, 1)", x.lays(1, 1, 1), BAD);
        due("9: lays(1, 1, 0)", x.lays(1, 1, 0), BAD);
        due("9: book(0, 6)", x.book(0, 6), 6);
        due("9: lays(1, 0, 0)", x.lays(1, 0, 0), 1);
        due("9: book(0, 6), apart", x.book(0, 6), 4);
        due("9: book(1, 6), apart", x.book(1, 6), 0);
        due("9: count(3)", x.count(3), 3);
    }

    // traps
    private static void promise10() {
        CarriedOne x = Check.told("b1 1;b2 2;b3 3;");
        due("10: traps(0, 0), none", x.traps(0, 0), STATE);
        due("10: traps(0, 1)", x.traps(0, 1), 1);
        due("10: traps(0, 1), again", x.traps(0, 1), STATE);
        due("10: traps(2, 1)", x.traps(2, 1), 2);
        for (int bad : new int[] {-1, 3, 32, LEAST, MOST}) {
            due("10: traps(" + bad + ", 1)", x.traps(bad, 1), BAD);
            due("10: traps(0, " + bad + ")", x.traps(0, bad), BAD);
            due("10: traps(0, 2)", x.traps(0, 2), BAD);
        }
        due("10: traps(0, 0)", x.traps(0, 0), 1);
        due("10: book(0, 7)", x.book(0, 7), 0);
        due("10: book(2, 7)", x.book(2, 7), 1);
        due("10: count(1)", x.count(1), 1);
        due("10: count(3)", x.count(3), 3);
    }

    // day
    private static void promise11() {
        CarriedOne x = Check.told(FIVE);
        due("11: of several the least", x.day(), 1);
        due("11: most tens", x.day(), 0);
        x.puts(3);
        due("11: to 4", x.day(), 4);
        due("11: to 3", x.day(), 3);
        x.traps(3, 1);
        due("11: a trap", x.day(), 3);
        due("11: now(0)", x.now(0), 5);
        x.traps(3, 0);
        x.lays(3, 4, 0);
        x.lays(1, 3, 0);
        due("11: none touches", x.day(), 3);
        CarriedOne y = Check.told("b55 55;b90 0;b0 0;t0 1;t1 2;");
        due("11: nowhere", y.day(), NONE);
        due("11: nowhere, now(0)", y.now(0), 1);
        y.puts(1);
        due("11: before the carries", y.day(), 0);
        y.puts(1);
        y.forgets(0, 0);
        y.forgets(0, 1);
        // 0 shows 0 now and 2 shows 0: of several the least; were it below 0 its tens were 0, too.
        due("11: by what is shown", y.day(), 0);
        CarriedOne z = Check.told("b55 45;b9 0;b10 0;t0 2;t1 2;o2;");
        z.forgets(0, 0);
        z.forgets(0, 1);
        due("11: shown below 0", z.book(0, 3), -10);
        due("11: below 0 the tens are 0", z.day(), 0);
        CarriedOne late = Check.told("b1 1;o0;");
        for (int i = 1; i <= 999; i++) late.day();
        due("11: DAY 999", late.now(0), 999);
        due("11: day of DAY 999", late.day(), STATE);
        due("11: DAY 999 still", late.now(0), 999);
        due("11: undo of DAY 999", late.undo(), 9);
        due("11: DAY 998", late.now(0), 998);
    }

    // undo
    private static void promise12() {
        CarriedOne x = Check.told("b55 45;b2 2;b3 3;t0 1;o0;");
        due("12: undo, nothing", x.undo(), STATE);
        x.forgets(0, 1);
        x.forgets(0, 0);
        x.rights(0);
        x.puts(2);
        x.lays(1, 2, 1);
        x.lays(0, 1, 0);
        x.traps(1, 1);
        x.day();
        due("12: now(1) at the end", x.now(1), 1);
        due("12: undo day", x.undo(), 7);
        due("12: now(1)", x.now(1), 2);
        due("12: now(0)", x.now(0), 0);
        due("12: undo traps", x.undo(), 6);
        due("12: count(1)", x.count(1), 0);
        due("12: undo lays apart", x.undo(), 5);
        due("12: now(6)", x.now(6), 2);
        due("12: undo lays together", x.undo(), 4);
        due("12: book(2, 6)", x.book(2, 6), 0);
        due("12: undo puts", x.undo(), 3);
        due("12: now(1), back", x.now(1), 0);
        due("12: undo rights", x.undo(), 2);
        due("12: book(0, 5)", x.book(0, 5), 3);
        due("12: book(0, 2)", x.book(0, 2), -10);
        due("12: undo forgets", x.undo(), 1);
        due("12: book(0, 5), one", x.book(0, 5), 2);
        due("12: undo the first", x.undo(), 0);
        due("12: undo, no more", x.undo(), STATE);
        for (int i = 0; i < 12; i++) x.day();
        due("12: ten are known", x.count(3), 10);
        for (int i = 9; i >= 0; i--) {
            due("12: undo, " + i + " more", x.undo(), i);
            due("12: now(0), undo, " + i, x.now(0), i + 2);
        }
        due("12: older ones are lost", x.undo(), STATE);
        due("12: now(0), two are left", x.now(0), 2);
        CarriedOne y = Check.told("b1 1;");
        y.puts(0);
        y.saw(1, 0, 1);
        y.mark(0, 0);
        due("12: undo puts from nowhere", y.undo(), 0);
        due("12: nowhere again", y.now(1), NONE);
        due("12: what was seen stays", y.count(2), 1);
        due("12: the trace stays", y.trace(), 1);
        // What came back by an undo may be changed and come back again.
        CarriedOne z = Check.told("b55 45;b55 45;b55 45;b55 45;b55 45;b55 45;t0 1;t4 5;t0 5;o5;");
        z.forgets(5, 1);
        z.traps(5, 1);
        z.day();
        z.undo();
        z.lays(0, 1, 0);
        z.lays(5, 4, 0);
        z.traps(5, 0);
        z.rights(5);
        z.puts(0);
        z.day();
        due("12: undo, again", z.undo(), 7);
        due("12: now(1), again", z.now(1), 0);
        due("12: now(6), again", z.now(6), 1);
        due("12: count(1), again", z.count(1), 0);
        due("12: book(5, 5), again", z.book(5, 5), 0);
        z.undo();
        z.undo();
        due("12: now(1), before", z.now(1), 5);
        due("12: book(5, 5), before", z.book(5, 5), 2);
        due("12: book(5, 7), before", z.book(5, 7), 0);
    }

    // now
    private static void promise13() {
        CarriedOne x = Check.told(FIVE);
        int[] want = {0, 0, 1771, 1761, 1, 1, 5};
        for (int what = 0; what < 7; what++) due("13: now(" + what + ")", x.now(what), want[what]);
        x.day();
        x.forgets(0, 1);
        x.forgets(1, 0);
        due("13: now(0)", x.now(0), 1);
        due("13: now(1)", x.now(1), 1);
        due("13: now(2)", x.now(2), 1671);
        due("13: now(3)", x.now(3), 1761);
        due("13: now(4)", x.now(4), 3);
        due("13: now(5)", x.now(5), 3);
        for (int bad : new int[] {-1, 7, LEAST, MOST}) due("13: now(" + bad + ")", x.now(bad), BAD);
        // A carry of the ones forgotten and THE ONE there: nothing is found.
        CarriedOne y = Check.told("b5 5;b50 50;b5 5;o0;");
        y.forgets(0, 0);
        y.forgets(1, 1);
        y.forgets(2, 0);
        due("13: nines", y.now(4), 6);
        due("13: elevens", y.now(5), 6);
        // -110 is no more divided by 9, but by 11.
        CarriedOne z = Check.told("b55 45;b55 45;o1;");
        for (int b = 0; b < 2; b++) {
            z.forgets(b, 0);
            z.forgets(b, 1);
        }
        due("13: nines of -110, -100", z.now(4), 3);
        due("13: elevens of -110, -100", z.now(5), 2);
    }

    // inDays
    private static void promise14() {
        CarriedOne x = Check.told(WAY);
        int[] want = {0, 1, 2, 3, 4, 5, 4, 5};
        for (int n = 0; n < want.length; n++) due("14: inDays(" + n + ")", x.inDays(n), want[n]);
        due("14: inDays(98)", x.inDays(98), 4);
        due("14: inDays(99)", x.inDays(99), 5);
        for (int bad : new int[] {-1, 100, LEAST, MOST}) due("14: inDays(" + bad + ")", x.inDays(bad), BAD);
        due("14: nothing is changed", x.now(1), 0);
        due("14: nothing is done", x.count(3), 0);
        x.traps(2, 1);
        due("14: into a trap", x.inDays(99), 2);
        CarriedOne y = Check.told("b1 1;");
        due("14: nowhere", y.inDays(0), NONE);
        due("14: nowhere, 99", y.inDays(99), NONE);
        due("14: nowhere, 100", y.inDays(100), BAD);
        due("14: no books", new CarriedOne().inDays(1), NONE);
    }

    // round
    private static void promise15() {
        CarriedOne x = Check.told(WAY);
        due("15: round(0)", x.round(0), 4);
        due("15: round(1)", x.round(1), 2);
        for (int bad : new int[] {-1, 2, LEAST, MOST}) due("15: round(" + bad + ")", x.round(bad), BAD);
        x.traps(5, 1);
        due("15: into a trap, 0", x.round(0), 5);
        due("15: into a trap, 1", x.round(1), 1);
        x.traps(0, 1);
        due("15: it stays, 0", x.round(0), 0);
        due("15: it stays, 1", x.round(1), 1);
        CarriedOne y = Check.told("b90 0;b90 0;b90 0;b10 0;t0 1;t1 2;t2 0;t3 2;o3;");
        // 3, 2, 0, 1, 0, 1, ..
        due("15: y.round(0)", y.round(0), 2);
        due("15: y.round(1)", y.round(1), 2);
        CarriedOne z = Check.told("b1 1;b1 1;t0 1;");
        due("15: nowhere, 0", z.round(0), NONE);
        due("15: nowhere, 1", z.round(1), NONE);
        due("15: nowhere, 2", z.round(2), BAD);
    }

    // from
    private static void promise16() {
        CarriedOne x = Check.told(WAY);
        int[] want = {0, 0, 0, 0, 42, 21};
        for (int b = 0; b < 6; b++) due("16: from(" + b + ", 5)", x.from(b, 5), want[b]);
        due("16: from(5, 20)", x.from(5, 20), 42);
        due("16: from(3, 0)", x.from(3, 0), 8);
        due("16: from(3, 1)", x.from(3, 1), 4);
        for (int bad : new int[] {-1, 6, LEAST, MOST}) due("16: from(" + bad + ", 1)", x.from(bad, 1), BAD);
        for (int bad : new int[] {-1, 21, LEAST, MOST}) due("16: from(0, " + bad + ")", x.from(0, bad), BAD);
        x.traps(2, 1);
        due("16: from(2, 5), a trap", x.from(2, 5), 7);
        // THE ONE of now adds nothing where it is not in what is asked: 1 and 2 both have tens 2.
        CarriedOne y = Check.told("b20 0;b20 0;b20 0;t0 1;t0 2;o2;");
        due("16: from(1, 1)", y.from(1, 1), 1);
        due("16: from(2, 1)", y.from(2, 1), 0);
        CarriedOne z = Check.told("b1 1;b1 1;t0 1;");
        due("16: nowhere", z.from(0, 1), 2);
    }

    // lure
    private static void promise17() {
        CarriedOne x = Check.told("b10 10;b10 10;b15 5;");
        due("17: nowhere", x.lure(0, 1, 0), STATE);
        due("17: nowhere, bad", x.lure(3, 1, 0), BAD);
        due("17: nowhere, bad days", x.lure(0, 21, 0), BAD);
        due("17: nowhere, bad what", x.lure(0, 1, 3), BAD);
        x.puts(1);
        int[][] want = {{0, 1, 1, 1, NONE}, {1, 1, 0, NONE, NONE}, {2, 1, 1, 12, NONE},
            {0, 2, 2, 2, 12}, {1, 2, 0, NONE, NONE}, {2, 2, NONE, NONE, NONE}, {0, 20, 2, 2, 12}};
        for (int[] w : want) {
            for (int what = 0; what < 3; what++) {
                due("17: lure(" + w[0] + ", " + w[1] + ", " + what + ")", x.lure(w[0], w[1], what), w[2 + what]);
            }
        }
        for (int bad : new int[] {-1, 3, LEAST, MOST}) due("17: lure(" + bad + ", 1, 0)", x.lure(bad, 1, 0), BAD);
        for (int bad : new int[] {-1, 0, 21, LEAST, MOST}) due("17: lure(0, " + bad + ", 0)", x.lure(0, bad, 0), BAD);
        for (int bad : new int[] {-1, 3, LEAST, MOST}) due("17: lure(0, 1, " + bad + ")", x.lure(0, 1, bad), BAD);
        due("17: nothing is changed", x.now(6), 0);
        x.traps(1, 1);
        due("17: out of a trap", x.lure(0, 1, 0), NONE);
        due("17: in a trap", x.lure(1, 20, 0), 0);
        // From 3 to 0 in two days: by 4, by 1 (tens 9, 8; 0 has 0): one touch is no way.
        CarriedOne y = Check.told("b0 0;b80 0;b70 0;b10 0;b90 0;t3 4;o3;");
        due("17: y.lure(0, 2, 0)", y.lure(0, 2, 0), NONE);
        due("17: y.lure(1, 2, 0)", y.lure(1, 2, 0), 1);
        due("17: y.lure(1, 2, 1)", y.lure(1, 2, 1), 14);
        due("17: y.lure(0, 1, 0)", y.lure(0, 1, 0), NONE);
        lureOfSix();
    }

    // Of ways by two touches the first, by their order; only the last one, where traps leave it.
    private static void lureOfSix() {
        CarriedOne x = Check.told("b0 0;b0 0;b0 0;b0 0;b10 0;b0 0;o5;");
        lured("5 to 0 in 2", x, 0, 2, 2, 1, 15);
        lured("5 to 0 in 1", x, 0, 1, 1, 5, NONE);
        lured("5 to 5 in 2", x, 5, 2, 0, NONE, NONE);
        x.puts(3);
        lured("3 to 4 in 1", x, 4, 1, 1, 34, NONE);
        lured("3 to 4 in 2", x, 4, 2, 2, 3, 4);
        for (int b = 0; b < 3; b++) x.traps(b, 1);
        lured("3 to 4 in 2, traps", x, 4, 2, 2, 35, 45);
        x.lays(3, 5, 1);
        lured("3 to 4 in 2, traps, one is there", x, 4, 2, 1, 45, NONE);
        x.traps(5, 1);
        lured("3 to 4 in 2, no way", x, 4, 2, NONE, NONE, NONE);
    }

    private static void lured(String what, CarriedOne x, int b, int n, int many, int first, int second) {
        due("17: how many, " + what, x.lure(b, n, 0), many);
        due("17: the first, " + what, x.lure(b, n, 1), first);
        due("17: the second, " + what, x.lure(b, n, 2), second);
    }

    // cut
    private static void promise18() {
        CarriedOne x = Check.told(WAY);
        int[] want = {NONE, 1, 1, 1, 1, 1};
        for (int b = 0; b < 6; b++) due("18: cut(" + b + ")", x.cut(b), want[b]);
        for (int bad : new int[] {-1, 6, LEAST, MOST}) due("18: cut(" + bad + ")", x.cut(bad), BAD);
        due("18: nothing is changed", x.now(6), 5);
        x.traps(0, 1);
        due("18: it does not come", x.cut(1), 0);
        CarriedOne y = Check.told("b1 1;b1 1;t0 1;");
        due("18: nowhere", y.cut(0), STATE);
        due("18: nowhere, bad", y.cut(2), BAD);
        // TOUCHES are counted as of 6 books, however few there are.
        CarriedOne z = Check.told("b1 1;b1 1;b1 1;t1 2;o1;");
        due("18: 12 is the sixth", z.cut(2), 32);
        // 01 apart, it goes 1, 4, 0; 04 apart, too, 1, 4, 1.
        CarriedOne all = Check.told("b999 999;b0 0;b901 99;b910 190;b123 321;b55 45;t0 1;t0 2;t0 3;"
            + "t0 4;t0 5;t1 2;t1 3;t1 4;t1 5;t2 3;t2 4;t2 5;t3 4;t3 5;t4 5;o1;");
        due("18: all touch, 0", all.cut(0), 9);
        due("18: all touch, 1", all.cut(1), NONE);
        due("18: all touch, 4", all.cut(4), 8);
        due("18: all touch, 5", all.cut(5), 0);
        // 04 apart, it goes 0, 2, 4; 24 apart, too, 0, 2, 0.
        CarriedOne two = Check.told("b0 0;b10 0;b20 0;b30 0;b90 0;t0 4;t0 1;t1 4;t0 2;t2 4;o0;");
        due("18: two touches", two.cut(4), 8 + 1024);
        // 04 apart, it goes 0, 3, 4; 34 apart, too, 0, 3, 2, 4; 24 apart, too, 0, 3, 2, 3.
        CarriedOne three = Check.told("b0 0;b10 0;b20 0;b30 0;b90 0;"
            + "t0 1;t0 2;t0 3;t0 4;t1 2;t1 3;t1 4;t2 3;t2 4;t3 4;o0;");
        due("18: three touches", three.cut(4), 8 + 1024 + 4096);
    }

    // odds
    private static void promise19() {
        CarriedOne x = Check.told(WAY);
        int[][] want = {{2, 0, 0, 1, 1}, {2, 0, 1, 0, 1}, {2, 1, 0, 1, 5}, {2, 1, 1, 4, 5}, {2, 2, 1, 8, 25},
            {0, 6, 4, 1, 1}, {0, 6, 5, 0, 1}, {10, 6, 0, 1, 1}, {10, 6, 1, 0, 1}, {5, 6, 5, 3, 32},
            {5, 6, 4, 1, 4}, {3, 6, 0, 729, 1000000}, {9, 6, 2, 19683, 200000}};
        for (int[] w : want) {
            String call = "19: odds(" + w[0] + ", " + w[1] + ", " + w[2] + ", ";
            due(call + "0)", x.odds(w[0], w[1], w[2], 0), w[3]);
            due(call + "1)", x.odds(w[0], w[1], w[2], 1), w[4]);
        }
        for (int bad : new int[] {-1, 11, LEAST, MOST}) due("19: odds(" + bad + ", 1, 0, 0)", x.odds(bad, 1, 0, 0), BAD);
        for (int bad : new int[] {-1, 7, LEAST, MOST}) due("19: odds(1, " + bad + ", 0, 0)", x.odds(1, bad, 0, 0), BAD);
        for (int bad : new int[] {-1, 6, LEAST, MOST}) due("19: odds(1, 1, " + bad + ", 0)", x.odds(1, 1, bad, 0), BAD);
        for (int bad : new int[] {-1, 2, LEAST, MOST}) due("19: odds(1, 1, 0, " + bad + ")", x.odds(1, 1, 0, bad), BAD);
        CarriedOne y = Check.told("b1 1;");
        due("19: nowhere", y.odds(1, 1, 0, 0), STATE);
        due("19: nowhere, bad", y.odds(11, 1, 0, 0), BAD);
        due("19: nowhere, bad book", y.odds(1, 1, 1, 0), BAD);
        y.puts(0);
        due("19: alone", y.odds(3, 6, 0, 0), 1);
        due("19: alone, lower", y.odds(3, 6, 0, 1), 1);
    }

    // saw
    private static void promise20() {
        CarriedOne x = Check.told("b1 1;b2 2;");
        due("20: saw(0, 0, 0)", x.saw(0, 0, 0), 1);
        due("20: saw(20, 1, 1)", x.saw(20, 1, 1), 2);
        due("20: saw, told again", x.saw(20, 1, 1), 3);
        for (int bad : new int[] {-1, 21, LEAST, MOST}) due("20: saw(" + bad + ", 0, 0)", x.saw(bad, 0, 0), BAD);
        for (int bad : new int[] {-1, 2, LEAST, MOST}) {
            due("20: saw(0, " + bad + ", 0)", x.saw(0, bad, 0), BAD);
            due("20: saw(0, 0, " + bad + ")", x.saw(0, 0, bad), BAD);
        }
        due("20: count(2)", x.count(2), 3);
        for (int i = 4; i <= 6; i++) due("20: saw, " + i, x.saw(1, 1, 0), i);
        due("20: saw, full", x.saw(1, 1, 0), FULL);
        due("20: saw, full and bad", x.saw(1, 2, 0), BAD);
        due("20: count(2), full", x.count(2), 6);
        due("20: nothing to be undone", x.count(3), 0);
    }

    // forget
    private static void promise21() {
        CarriedOne x = Check.told("b1 1;b2 2;");
        due("21: forget, nothing", x.forget(), 0);
        x.saw(0, 0, 0);
        x.saw(0, 1, 0);
        due("21: fits", x.fits(), 0);
        due("21: forget", x.forget(), 2);
        due("21: count(2)", x.count(2), 0);
        due("21: fits, all", x.fits(), 3);
        due("21: forget, again", x.forget(), 0);
        due("21: saw anew", x.saw(0, 0, 0), 1);
        due("21: fits anew", x.fits(), 2);
    }

    // fits
    private static void promise22() {
        CarriedOne x = Check.told(WAY);
        due("22: fits, all", x.fits(), 63);
        x.saw(5, 5, 1);
        due("22: fits(5, 5, 1)", x.fits(), 21);
        x.saw(1, 1, 0);
        due("22: fits(1, 1, 0)", x.fits(), 20);
        x.saw(0, 2, 0);
        due("22: fits(0, 2, 0)", x.fits(), 16);
        x.saw(20, 4, 1);
        due("22: fits(20, 4, 1)", x.fits(), 16);
        x.saw(20, 4, 0);
        due("22: fits, none", x.fits(), 0);
        due("22: nothing is changed", x.now(0), 0);
        due("22: no books", new CarriedOne().fits(), 0);
        // By ways as they are when it is asked.
        CarriedOne y = Check.told("b10 0;b20 0;b30 0;t0 1;");
        y.saw(1, 2, 1);
        due("22: before", y.fits(), 4);
        y.lays(1, 2, 1);
        due("22: after", y.fits(), 2);
        y.traps(2, 1);
        due("22: with a trap", y.fits(), 6);
    }

    // hidden
    private static void promise23() {
        CarriedOne x = Check.told("b58 67;b999 999;b121 0;b100 0;b7 5;b10 0;o0;");
        // 058: 085, 508, 850. 121: 112, 211. 100: 010, 001 (and itself). 007: 070, 700. 010: 001, 100.
        int[] nines = {3, 0, 2, 2, 2, 2};
        int[] elevens = {1, 0, 0, 1, 1, 0};
        for (int b = 0; b < 6; b++) {
            due("23: hidden(" + b + ", 9)", x.hidden(b, 9), nines[b]);
            due("23: hidden(" + b + ", 11)", x.hidden(b, 11), elevens[b]);
        }
        for (int bad : new int[] {-1, 6, LEAST, MOST}) due("23: hidden(" + bad + ", 9)", x.hidden(bad, 9), BAD);
        for (int bad : new int[] {-9, 0, 1, 8, 10, 12, 99, LEAST, MOST}) due("23: hidden(0, " + bad + ")", x.hidden(0, bad), BAD);
    }

    // why
    private static void promise24() {
        // Carries: 0 both, 1 none, 2 of the ones.
        CarriedOne x = Check.told(THREE);
        // Nothing wrong; or THE ONE in one of three and one of two carries of the ones.
        whys("right", x, 7, 0, 7);
        x.forgets(0, 1);
        // 100 less: only book 0 has that carry.
        whys("100 less", x, 7, 1, 7);
        x.forgets(0, 0);
        // 110 less: with one more of two, or THE ONE and both of two.
        whys("110 less", x, 5, 1, 7);
        x.forgets(2, 0);
        // 120 less: all three are forgotten, THE ONE nowhere.
        whys("120 less", x, 1, 5, 5);
        x.puts(1);
        whys("110 less, otherwise", x, 5, 1, 7);
        for (int bad : new int[] {-1, 3, LEAST, MOST}) due("24: why(" + bad + ")", x.why(bad), BAD);
        // 10 too many: only THE ONE is as much; in one of three.
        CarriedOne y = Check.told("b1 1;b1 1;b1 1;o2;");
        whys("10 too many", y, 3, 0, 7);
        CarriedOne z = Check.told("b1 1;o0;");
        whys("one book", z, 1, 1, 1);
        CarriedOne full = Check.told("b55 45;b55 45;b55 45;b55 45;b55 45;b55 45;");
        // 1, or THE ONE in one of six and one of six carries.
        whys("six books", full, 37, 0, 63);
        for (int b = 0; b < 3; b++) {
            full.forgets(b, 0);
            full.forgets(b, 1);
        }
        // 20 of the tens' carries by 20 + 6 * 15 of the others.
        whys("three of six", full, 20 * (20 + 6 * 15), 0, 63);
    }

    private static void whys(String what, CarriedOne x, int many, int each, int some) {
        due("24: why(0), " + what, x.why(0), many);
        due("24: why(1), " + what, x.why(1), each);
        due("24: why(2), " + what, x.why(2), some);
    }

    // proofs
    private static void promise25() {
        CarriedOne x = new CarriedOne();
        int[] books = {0, 1, 2, 3, 4, 5, 8, 9, 16, 17, 32, 33, 64, 65, 99};
        int[] proofs = {0, 0, 1, 2, 2, 3, 3, 4, 4, 5, 5, 6, 6, 7, 7};
        for (int i = 0; i < books.length; i++) due("25: proofs(" + books[i] + ")", x.proofs(books[i]), proofs[i]);
        for (int bad : new int[] {-1, 100, LEAST, MOST}) due("25: proofs(" + bad + ")", x.proofs(bad), BAD);
    }

    // mark
    private static void promise26() {
        CarriedOne x = Check.told(FIVE);
        x.day();
        x.day();
        x.day();
        x.forgets(2, 1);
        // Book 1: 105 and 20, THE ONE there, tens 3, three touch it. Book 2: 900 of 1000, two touch it.
        int[] want1 = {135, 138, 10, 276, 13, 138};
        int[] want2 = {900, 900, -100, 1800, -98, 903};
        int[] traces = {1, 11, 101, 1011, 10101, 100001};
        for (int kind = 0; kind < 6; kind++) {
            long before = x.trace();
            due("26: mark(" + kind + ", 1)", x.mark(kind, 1), want1[kind]);
            due("26: trace of " + kind, x.trace() - before, traces[kind]);
            due("26: mark(" + kind + ", 2)", x.mark(kind, 2), want2[kind]);
        }
        long before = x.trace();
        for (int bad : new int[] {-1, 6, LEAST, MOST}) due("26: mark(" + bad + ", 0)", x.mark(bad, 0), NO);
        for (int bad : new int[] {-1, 5, LEAST, MOST}) due("26: mark(0, " + bad + ")", x.mark(0, bad), NO);
        due("26: refused, the trace stays", x.trace(), before);
        CarriedOne y = Check.told("b55 45;");
        y.forgets(0, 0);
        y.forgets(0, 1);
        due("26: below 0, tens 0", y.mark(1, 0), -10);
        due("26: below 0, twice", y.mark(3, 0), -20);
        due("26: no books", new CarriedOne().mark(0, 0), NO);
    }

    // keep
    private static void promise27() {
        CarriedOne x = Check.told(WAY);
        due("27: keep(0)", x.keep(0), 0);
        x.day();
        x.day();
        due("27: keep(1)", x.keep(1), 2);
        for (int bad : new int[] {-1, 2, LEAST, MOST}) due("27: keep(" + bad + ")", x.keep(bad), BAD);
        due("27: nothing is done", x.count(3), 2);
        x.day();
        due("27: keep(0) anew", x.keep(0), 3);
        x.day();
        due("27: back(0)", x.back(0), 3);
        due("27: back(1)", x.back(1), 2);
        due("27: keep, no books", new CarriedOne().keep(1), 0);
    }

    // back
    private static void promise28() {
        CarriedOne x = Check.told("b55 45;b2 2;b3 3;t0 1;o0;");
        due("28: back(0), nothing kept", x.back(0), STATE);
        x.forgets(0, 1);
        x.traps(2, 1);
        x.day();
        due("28: keep(0)", x.keep(0), 1);
        due("28: back(1), nothing kept", x.back(1), STATE);
        for (int bad : new int[] {-1, 2, LEAST, MOST}) due("28: back(" + bad + ")", x.back(bad), BAD);
        x.saw(1, 1, 1);
        x.type(98);
        x.mark(0, 0);
        for (int i = 0; i < 5; i++) {
            x.rights(0);
            x.traps(2, 0);
            x.lays(0, 1, 0);
            x.lays(0, 2, 1);
            x.puts(2);
            x.day();
        }
        due("28: back(0)", x.back(0), 1);
        due("28: book(0, 2)", x.book(0, 2), 0);
        due("28: book(0, 5)", x.book(0, 5), 2);
        due("28: book(0, 6)", x.book(0, 6), 2);
        due("28: book(2, 7)", x.book(2, 7), 1);
        due("28: now(0)", x.now(0), 1);
        due("28: now(1)", x.now(1), 1);
        due("28: count(2) stays", x.count(2), 1);
        due("28: count(3)", x.count(3), 3);
        due("28: count(4) stays", x.count(4), 1);
        due("28: trace stays", x.trace(), 1);
        due("28: undo day", x.undo(), 2);
        due("28: undo traps", x.undo(), 1);
        due("28: undo forgets", x.undo(), 0);
        due("28: undo, no more", x.undo(), STATE);
        due("28: back(0), again", x.back(0), 1);
        due("28: count(3), again", x.count(3), 3);
        CarriedOne y = Check.told("b1 1;");
        y.keep(1);
        y.puts(0);
        y.back(1);
        due("28: nowhere again", y.now(1), NONE);
    }

    // count
    private static void promise29() {
        CarriedOne x = Check.told(FIVE);
        x.traps(0, 1);
        x.traps(4, 1);
        x.day();
        x.saw(1, 1, 1);
        Check.type(x, "abcd");
        int[] want = {5, 2, 1, 3, 4};
        for (int what = 0; what < 5; what++) due("29: count(" + what + ")", x.count(what), want[what]);
        for (int bad : new int[] {-1, 5, LEAST, MOST}) due("29: count(" + bad + ")", x.count(bad), BAD);
    }

    // trace
    private static void promise30() {
        CarriedOne x = Check.told("b1 1;o0;");
        due("30: trace", x.trace(), 0);
        for (int kind = 0; kind < 6; kind++) x.mark(kind, 0);
        due("30: trace of all kinds", x.trace(), 1 + 11 + 101 + 1011 + 10101 + 100001);
        due("30: trace, again", x.trace(), 111226);
        x.day();
        x.mark(5, 0);
        x.undo();
        x.clear();
        x.books();
        due("30: trace stays", x.trace(), 211227);
        due("30: of no books", x.mark(0, 0), NO);
        for (int i = 0; i < 490; i++) Check.told("b1 1;").mark(5, 0);
        due("30: each object its own", x.trace(), 211227);
        CarriedOne y = Check.told("b1 1;");
        for (int i = 0; i < 500; i++) y.mark(5, 0);
        due("30: trace of many", y.trace(), 50000500);
    }
}
