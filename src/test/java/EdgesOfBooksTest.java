/** The edges of "1 BOOKS" and of promises 1 to 5: a new object, THE TEXT, what a BOOK tells. */
public final class EdgesOfBooksTest {
    private static final int BAD = Edges.BAD, STATE = Edges.STATE, FULL = Edges.FULL, NONE = Edges.NONE;
    private static final int NO = Edges.NO;
    private static final Scene NEW = Scenes.NEW, ALONE = Scenes.ALONE, SIX = Scenes.SIX, BUSY = Scenes.BUSY;
    private static final Edges edges = new Edges("EdgesOfBooksTest");

    public static void main(String[] args) {
        constants();
        newObject();
        noBooks();
        type();
        clear();
        items();
        tokens();
        numbers();
        books();
        touches();
        one();
        tooEarly();
        bytes();
        fullText();
        readAnew();
        book();
        carries();
        forgotten();
        edges.end();
    }

    private static String blanks(int n) {
        return " ".repeat(n);
    }

    /** A text that is read: how many ITEMS; THE TEXT is empty then. */
    private static void well(String text, int items) {
        edges.does(BUSY.and("text " + text), "books", items);
        edges.does(BUSY.and("told " + text), "count 4", 0);
    }

    /** A text with a FAULT at that place: nothing changes, THE TEXT stays. */
    private static void fault(String text, int place) {
        edges.keeps(BUSY.and("text " + text), "books", -10 - place);
        edges.keeps(BUSY.and("text " + text), "count 4", text.length());
    }

    private static void constants() {
        edges.says("The public face: the constants");
        edges.due("BAD", CarriedOne.BAD, -1);
        edges.due("STATE", CarriedOne.STATE, -2);
        edges.due("FULL", CarriedOne.FULL, -3);
        edges.due("NONE", CarriedOne.NONE, -9);
        edges.due("NO", CarriedOne.NO, -1000000);
    }

    private static void newObject() {
        edges.says("1: As told; no BOOKS");
        edges.keepsRow(NEW, "count #", 0, 0, 0, 0, 0);
        edges.says("1: THE ONE is nowhere (at first), DAY 0 at first");
        edges.keepsRow(NEW, "now #", 0, NONE, 0, 0, 0, 0, 0);
        edges.says("1: THE TRACE (0 at first)");
        edges.keeps(NEW, "trace", 0);
        edges.says("1: nothing to be UNDONE, nothing kept, nothing SEEN, an empty TEXT");
        edges.keeps(NEW, "undo", STATE);
        edges.keepsRow(NEW, "back #", STATE, STATE);
        edges.keeps(NEW, "forget", 0);
        edges.keeps(NEW, "clear", 0);
        edges.keeps(NEW, "books", 0);
    }

    private static void noBooks() {
        edges.says("1: without BOOKS there is no BOOK 0");
        for (Scene none : new Scene[] {NEW, NEW.and("told  "), BUSY.and("told  ")}) {
            edges.keepsRow(none, "book 0 #", BAD, BAD, BAD, BAD, BAD, BAD, BAD, BAD);
            edges.keepsAll(none, BAD, "forgets 0 0", "rights 0", "puts 0", "lays 0 1 1", "lays 0 1 0",
                "traps 0 1", "traps 0 0", "from 0 0", "lure 0 1 0", "cut 0", "odds 0 0 0 0", "saw 0 0 0",
                "hidden 0 9");
            edges.keepsRow(none, "mark # 0", NO, NO, NO, NO, NO, NO);
            edges.says("1: without BOOKS the rest answers as for nothing");
            edges.keepsAll(none, NONE, "inDays 0", "inDays 99", "round 0", "round 1", "now 1");
            edges.keepsAll(none, 0, "fits", "why 1", "why 2", "now 2", "now 3", "now 4", "now 5", "now 6");
            edges.keeps(none, "why 0", 1);
            edges.does(none, "day", NONE);
            edges.keeps(none.and("day"), "now 0", 1);
            edges.does(none.and("day"), "undo", 0);
            edges.does(none.and("day"), "keep 1", 1);
            edges.does(none.and("keep 1", "day"), "back 1", 0);
        }
    }

    private static void type() {
        edges.says("2: A byte (0 .. 255) comes to THE TEXT: how many it has");
        edges.does(NEW, "type 0", 1);
        edges.does(NEW, "type 255", 1);
        edges.does(NEW.and("type 0"), "type 255", 2);
        edges.does(BUSY, "type 98", 1);
        edges.says("2: BAD");
        edges.beyond(NEW, "type #", 0, 255, BAD);
        edges.beyond(BUSY.and("text b"), "type #", 0, 255, BAD);
        Scene almost = NEW.and("text " + blanks(149));
        edges.says("2: 150 bytes at most");
        edges.does(almost, "type 32", 150);
        edges.says("2: FULL");
        Scene full = almost.and("type 59");
        edges.keepsAll(full, FULL, "type 32", "type 0", "type 255");
        edges.keeps(full, "count 4", 150);
        edges.says("2: BAD ahead of FULL");
        edges.beyond(full, "type #", 0, 255, BAD);
        edges.says("2: room again, once it is empty");
        edges.does(full.and("clear"), "type 32", 1);
        edges.does(NEW.and("told " + blanks(150)), "type 32", 1);
    }

    private static void clear() {
        edges.says("3: THE TEXT is empty: how many bytes it had");
        edges.keeps(BUSY, "clear", 0);
        edges.does(BUSY.and("text b"), "clear", 1);
        edges.does(NEW.and("text " + blanks(150)), "clear", 150);
        edges.keeps(BUSY.and("text b1", "clear"), "clear", 0);
        edges.keeps(BUSY.and("text b1", "clear"), "count 4", 0);
        edges.says("3: nothing else changes");
        edges.alike(BUSY.and("text b1", "clear"), BUSY, "typed and cleared is as if not typed");
    }

    private static void items() {
        edges.says("4: ITEMS (none, too)");
        well("", 0);
        well(" ", 0);
        edges.says("4: each letters and what is told, ended by ;");
        well("b1 2;", 1);
        well("b1 2;b3 4;t0 1;o1;", 4);
        edges.says("4: read byte by byte, blanks (32) ahead of, between and behind TOKENS as may be");
        well("   b   1   2   ;   o   0   ;   ", 2);
        edges.keeps(NEW.and("told   b   1   2   ;   o   0   ;   "), "book 0 3", 13);
        edges.says("4: none needed where TOKENS end without");
        well("b1 2;b3 4;t0 1;o0;", 4);
        edges.keeps(NEW.and("told b12 3;"), "book 0 0", 12);
        edges.says("4: two NUMBERS side by side are one");
        fault("b12;", 3);
        edges.says("4: as many ITEMS as 150 bytes hold");
        edges.does(NEW.and("text b0 0;b0 0;" + "t0 1;".repeat(28)), "books", 30);
    }

    private static void tokens() {
        edges.says("4: letters that begin no ITEM");
        fault("a", 0);
        fault("z1;", 0);
        fault("c1 2;", 0);
        fault("n0;", 0);
        fault("p0;", 0);
        fault("s0 1;", 0);
        fault("u0 1;", 0);
        fault(" x", 1);
        edges.says("4: letters a .. z side by side are one TOKEN");
        fault("bb1 2;", 0);
        fault("bo0;", 0);
        fault("b1 2;ob0;", 5);
        fault("b1 2;b3 4;tt0 1;", 10);
        fault("ba1 2;", 0);
        fault("bz1 2;", 0);
        edges.says("4: letters that blanks part are two TOKENS");
        fault("b b1 2;", 2);
        edges.says("4: the first TOKEN that can't stand there");
        fault(";", 0);
        fault("  ;", 2);
        fault("0", 0);
        fault("b;", 1);
        fault("b1;", 2);
        fault("b1 b", 3);
        fault("b1 2 3;", 5);
        fault("b1 2b", 4);
        fault("b1 2;;", 5);
        fault("b1 2;1", 5);
        fault("b1 2;t;", 6);
        fault("b1 2;b1 2;t0;", 12);
        fault("b1 2;b1 2;t0 1 1;", 15);
        fault("b1 2;o;", 6);
        fault("b1 2;o0 0;", 8);
        edges.says("4: a NUMBER begins no ITEM, though it be that of a letter");
        fault("98 1 2;", 0);
        fault("b0 0;111 0;", 5);
        fault("b0 0;b0 0;116 0 1;", 10);
        edges.says("4: of two FAULTS the first");
        fault("b1000 x", 1);
        fault("b1 x1000;$", 3);
        fault("b1 2;$o9;", 5);
    }

    private static void numbers() {
        edges.says("4: a NUMBER above 999: that TOKEN's place");
        well("b999 999;", 1);
        fault("b1000 0;", 1);
        fault("b0 1000;", 3);
        fault("b9999 0;", 1);
        fault("b 4294967296 0;", 2);
        fault("b" + "9".repeat(100) + " 0;", 1);
        edges.says("4: a NUMBER with a 0 ahead of others: that TOKEN's place");
        well("b0 0;", 1);
        fault("b00 0;", 1);
        fault("b01 0;", 1);
        fault("b0 09;", 3);
        fault("b0 000;", 3);
        fault("b0 0010;", 3);
        fault("b0 0;o00;", 6);
        fault("b0 0;b0 0;t00 1;", 11);
        fault("b0 0;b0 0;t0 01;", 13);
        edges.says("4: such a NUMBER has one place, though another TOKEN is due there");
        fault("01", 0);
        fault("b0 0 1000", 5);
    }

    private static void books() {
        edges.says("1 BOOKS: A, B (0 .. 999)");
        edges.keepsRow(NEW.and("told b0 999;"), "book 0 #", 0, 999, 999, 999);
        edges.keepsRow(NEW.and("told b999 0;"), "book 0 #", 999, 0, 999, 999);
        edges.says("1 BOOKS: 6 of them at most");
        well("b1 1;b1 1;b1 1;b1 1;b1 1;b1 1;", 6);
        edges.says("4: a seventh book");
        fault("b1 1;b1 1;b1 1;b1 1;b1 1;b1 1;b1 1;", 30);
        fault("b1 1;b1 1;b1 1;b1 1;b1 1;b1 1; b", 31);
        fault("b1 1;b1 1;b1 1;b1 1;b1 1;b1 1;o5;b1000", 33);
        edges.says("4: six are told, not counted by those of before");
        edges.does(SIX.and("text b1 1;"), "books", 1);
        edges.keeps(SIX.and("told b1 1;"), "count 0", 1);
    }

    private static void touches() {
        edges.says("4: t X Y (books told ahead touch)");
        well("b0 0;b0 0;t0 1;", 3);
        well("b0 0;b0 0;t1 0;", 3);
        edges.keeps(NEW.and("told b0 0;b0 0;b0 0;b0 0;b0 0;b0 0;t5 4;t0 5;"), "book 5 6", 17);
        edges.says("4: X beyond what it may be");
        fault("t0 1;", 1);
        fault("b0 0;t1 0;", 6);
        fault("b0 0;b0 0;t2 0;", 11);
        fault("b0 0;b0 0;b0 0;b0 0;b0 0;b0 0;t6 0;", 31);
        edges.says("4: Y beyond what it may be");
        fault("b0 0;t0 1;", 8);
        fault("b0 0;b0 0;t0 2;", 13);
        fault("b0 0;b0 0;b0 0;b0 0;b0 0;b0 0;t0 6;", 33);
        fault("b0 0;b0 0;t0 999;", 13);
        edges.says("4: a book told behind is not told ahead");
        fault("b0 0;t0 1;b0 0;", 8);
        edges.says("4: Y that is X");
        fault("b0 0;t0 0;", 8);
        fault("b0 0;b0 0;t1 1;", 13);
        edges.says("4: told again: well");
        well("b0 0;b0 0;t0 1;t0 1;t1 0;", 5);
        edges.keeps(NEW.and("told b0 0;b0 0;t0 1;t0 1;"), "now 6", 1);
        edges.keeps(NEW.and("told b0 0;b0 0;t0 1;t1 0;"), "now 6", 1);
        edges.keeps(NEW.and("told b0 0;b0 0;t0 1;t0 1;t1 0;"), "now 6", 1);
    }

    private static void one() {
        edges.says("4: o X (the one is in a book told ahead)");
        well("b0 0;o0;", 2);
        edges.keeps(NEW.and("told b0 0;o0;b0 0;"), "now 1", 0);
        edges.keeps(NEW.and("told b0 0;b0 0;b0 0;b0 0;b0 0;b0 0;o5;"), "now 1", 5);
        fault("o0;", 1);
        fault("b0 0;o1;", 6);
        fault("b0 0;o1;b0 0;", 6);
        fault("b0 0;b0 0;b0 0;b0 0;b0 0;b0 0;o6;", 31);
        edges.says("4: once at most; o again");
        fault("b0 0;o0;o0;", 8);
        fault("b0 0;b0 0;o0; o1;", 14);
        fault("b0 0;o0;o", 8);
        edges.says("4: what is not told, THE ONE too, as at first: nowhere");
        edges.keeps(BUSY.and("told b0 0;"), "now 1", NONE);
        edges.says("4: once in each TEXT");
        edges.does(SIX.and("text b0 0;o0;"), "books", 2);
    }

    private static void tooEarly() {
        edges.says("4: the text's length, if it ends too early");
        String text = "b1 2;b3 4;t0 1;o1;";
        for (int length = 0; length <= text.length(); length++) {
            String begin = text.substring(0, length);
            int items = begin.length() - begin.replace(";", "").length();
            if (begin.isEmpty() || begin.endsWith(";")) {
                well(begin, items);
                well(begin + "  ", items);
            } else {
                fault(begin, length);
                fault(begin + "  ", length + 2);
            }
        }
        edges.says("4: too early, though no NUMBER could stand there");
        fault("t", 1);
        fault("o ", 2);
        fault("b0 0;t0", 7);
        edges.says("4: not too early: the last TOKEN itself can't stand there");
        fault("b1000", 1);
        fault("b0 0;o0;o", 8);
        fault("b0 0;t0 0", 8);
        edges.says("4: -10 less FAULT: nothing changes, THE TEXT, too, stays, and may be typed on");
        edges.does(NEW.and("text b1 2", "type 59"), "books", 1);
    }

    private static void bytes() {
        String besides = "abcdefghijklmnopqrstuvwxyz0123456789; ";
        String[] begins = {"", "b", "b1", "b1 ", "b1 2", "b1 2;"};
        for (int c = 0; c < 256; c++) {
            if (besides.indexOf(c) >= 0) {
                continue;
            }
            edges.says("4: of a byte that begins none: " + c);
            for (String begin : begins) {
                Scene scene = NEW.and("text " + begin + (char) c);
                edges.does(scene, "books", -10 - begin.length());
                edges.does(scene.and("type 59"), "clear", begin.length() + 2);
            }
            fault("b1 2" + (char) c + ";", 4);
        }
    }

    private static void fullText() {
        edges.says("4: 150 bytes, read to the last");
        Scene full = NEW.and("text b0 0;" + blanks(142) + "o0;");
        edges.keeps(full, "count 4", 150);
        edges.does(full, "books", 2);
        edges.says("4: 150 bytes that end too early");
        edges.keeps(NEW.and("text b0 0;" + blanks(143) + "o0"), "books", -160);
        edges.says("4: 150 bytes with a FAULT in the last");
        edges.keeps(NEW.and("text b0 0;" + blanks(144) + "$"), "books", -159);
        edges.says("4: 150 bytes of one TOKEN");
        edges.keeps(NEW.and("text " + "b".repeat(150)), "books", -10);
        edges.keeps(NEW.and("text b" + "1".repeat(149)), "books", -11);
    }

    private static void readAnew() {
        edges.says("4: Read anew: as told (what is not told as at first)");
        Scene anew = BUSY.and("told b55 45;b999 999;");
        edges.keepsRow(anew, "book 0 #", 55, 45, 100, 100, 3, 0, 0, 0);
        edges.keepsRow(anew, "book 1 #", 999, 999, 1998, 1998, 3, 0, 0, 0);
        edges.keepsRow(anew, "book 2 #", BAD, BAD, BAD, BAD, BAD, BAD, BAD, BAD);
        edges.says("4: Read anew: DAY 0, THE ONE nowhere, no TOUCHES");
        edges.keepsRow(anew, "now #", 0, NONE, 2098, 2098, 0, 0, 0);
        edges.says("4: Read anew: no TRAPS, nothing SEEN or to be UNDONE, THE TEXT empty");
        edges.keepsRow(anew, "count #", 2, 0, 0, 0, 0);
        edges.keeps(anew, "undo", STATE);
        edges.keeps(anew, "fits", 3);
        edges.says("4: Read anew: IMAGES are gone");
        edges.keepsRow(anew, "back #", STATE, STATE);
        edges.says("4: Read anew: THE TRACE stays");
        edges.keeps(anew, "trace", 1011);
        edges.says("4: Read anew: as if it were the first");
        edges.alike(BUSY.and("clear", "told b1 2;b3 4;t0 1;o1;"), NEW.and("told b1 2;", "told b1 2;b3 4;t0 1;o1;",
            "mark 3 0"), "read behind much and behind little");
        String six = "told b55 45;b999 999;b55 45;b999 999;b5 5;b55 45;t0 5;";
        Scene much = NEW.and(six, "forgets 0 0", "forgets 1 1", "forgets 2 0", "forgets 3 1", "forgets 4 0",
            "forgets 5 1", "traps 0 1", "traps 5 1", "lays 0 1 1", "lays 0 5 0", "puts 5", "day");
        edges.alike(much.and(six), NEW.and(six), "the same TEXT again");
        edges.says("4: an empty TEXT is read anew, too");
        edges.does(BUSY, "books", 0);
        edges.alike(BUSY.and("books"), NEW.and("told b1 1;", "mark 3 0", "books"), "books of no TEXT");
    }

    private static void book() {
        edges.says("5: Of a BOOK: 0 A .. 7 whether it has a TRAP");
        edges.keepsRow(BUSY, "book 0 #", 55, 45, 100, 100, 3, 0, 34, 0);
        edges.keepsRow(BUSY, "book 2 #", 999, 999, 1898, 1898, 3, 2, 10, 0);
        edges.keepsRow(BUSY, "book 3 #", 0, 0, 0, 0, 0, 0, 20, 1);
        edges.keepsRow(BUSY, "book 5 #", 1, 9, 10, 20, 1, 0, 17, 0);
        edges.says("5: BAD");
        edges.beyond(BUSY, "book 0 #", 0, 7, BAD);
        edges.beyond(BUSY, "book # 0", 0, 5, BAD);
        edges.beyond(BUSY, "book # 7", 0, 5, BAD);
        edges.beyond(ALONE, "book # 0", 0, 0, BAD);
        edges.beyond(BUSY, "book # 8", 0, 5, BAD);
        edges.says("5: SHOWN: what is WRITTEN, and 10, if THE ONE is in it");
        edges.keeps(ALONE, "book 0 3", 100);
        edges.keeps(ALONE.and("puts 0"), "book 0 3", 110);
        edges.keeps(ALONE.and("puts 0"), "book 0 2", 100);
        edges.keeps(NEW.and("told b999 999;o0;"), "book 0 3", 2008);
        edges.keeps(NEW.and("told b0 0;o0;"), "book 0 3", 10);
        edges.says("5: TOUCHES: none, all others");
        edges.keeps(ALONE, "book 0 6", 0);
        edges.keepsAll(Scenes.ALL_TOUCH, 62, "book 0 6");
        edges.keepsAll(Scenes.ALL_TOUCH, 31, "book 5 6");
    }

    private static void carriesOf(String text, int... wants) {
        for (int b = 0; b < wants.length; b++) {
            edges.keeps(NEW.and("told " + text), "book " + b + " 4", wants[b]);
        }
    }

    private static void carries() {
        edges.says("5: CARRY of place 0, if the figures of A and B there make 10 or more");
        carriesOf("b4 5;b5 5;b9 9;b9 0;b0 10;b19 11;", 0, 1, 1, 0, 0, 1);
        edges.says("5: CARRY of place 1, with the CARRY of the place ahead");
        carriesOf("b40 50;b50 50;b45 45;b45 55;b44 55;b990 10;", 0, 2, 1, 3, 0, 2);
        carriesOf("b10 90;b9 991;b10 80;b10 89;b11 89;b100 999;", 2, 3, 0, 0, 3, 0);
        edges.says("5: no CARRY of place 2, and only the figures there");
        carriesOf("b900 900;b999 1;b910 80;b109 100;b999 999;b199 101;", 0, 3, 0, 0, 3, 3);
        edges.says("5: CARRIES of A and B alone, be it forgotten or not");
        edges.keeps(ALONE.and("forgets 0 0"), "book 0 4", 3);
        edges.keeps(ALONE.and("forgets 0 0", "forgets 0 1"), "book 0 4", 3);
        edges.keeps(ALONE.and("puts 0"), "book 0 4", 3);
    }

    private static void forgotten() {
        edges.says("5: those forgotten (bits)");
        edges.keeps(ALONE, "book 0 5", 0);
        edges.keeps(ALONE.and("forgets 0 0"), "book 0 5", 1);
        edges.keeps(ALONE.and("forgets 0 1"), "book 0 5", 2);
        edges.keeps(ALONE.and("forgets 0 0", "forgets 0 1"), "book 0 5", 3);
        edges.says("5: WRITTEN is 10 less, 100 less, below 0");
        edges.keeps(ALONE.and("forgets 0 0"), "book 0 2", 90);
        edges.keeps(ALONE.and("forgets 0 1"), "book 0 2", 0);
        edges.keeps(ALONE.and("forgets 0 0", "forgets 0 1"), "book 0 2", -10);
        edges.keeps(ALONE.and("forgets 0 0", "forgets 0 1", "puts 0"), "book 0 3", 0);
    }
}
