/** The edges of what was SEEN, what is wrong, and of promises 20 to 25. */
public final class EdgesOfSeeingTest {
    private static final int BAD = Edges.BAD, FULL = Edges.FULL;
    private static final Scene NEW = Scenes.NEW, ALONE = Scenes.ALONE, SIX = Scenes.SIX, BUSY = Scenes.BUSY;
    private static final Scene NOWHERE = Scenes.NOWHERE, WAY = Scenes.WAY;
    private static final Edges edges = new Edges("EdgesOfSeeingTest");

    public static void main(String[] args) {
        saw();
        sawFull();
        forget();
        fits();
        fitsByAll();
        hidden();
        hiddenNumbers();
        why();
        whyOfOne();
        whyOfSix();
        proofs();
        edges.end();
    }

    private static void saw() {
        edges.says("20: SEEN: how much there is");
        edges.does(SIX, "saw 0 0 0", 1);
        edges.does(SIX, "saw 20 5 1", 1);
        edges.does(BUSY, "saw 0 0 1", 2);
        edges.says("20: told again it is one more");
        edges.does(BUSY, "saw 2 1 1", 2);
        edges.says("20: THE ONE nowhere: told all the same");
        edges.does(NOWHERE, "saw 1 2 1", 1);
        edges.says("20: BAD");
        edges.beyond(BUSY, "saw # 0 0", 0, 20, BAD);
        edges.beyond(BUSY, "saw 0 # 0", 0, 5, BAD);
        edges.beyond(BUSY, "saw 0 0 #", 0, 1, BAD);
        edges.beyond(NOWHERE, "saw 0 # 1", 0, 2, BAD);
        edges.keeps(NEW, "saw 0 0 1", BAD);
        edges.says("20: nothing else changes");
        edges.alike(BUSY.and("saw 0 0 1", "forget"), BUSY.and("forget"), "saw, forget");
    }

    private static void sawFull() {
        edges.says("20: 6 at most");
        Scene five = SIX.times(5, "saw 20 5 0");
        edges.does(five, "saw 0 0 1", 6);
        edges.says("20: FULL");
        Scene six = five.and("saw 0 0 1");
        edges.keepsAll(six, FULL, "saw 0 0 1", "saw 20 5 0", "saw 20 5 1");
        edges.keeps(six, "count 2", 6);
        edges.says("20: BAD ahead of FULL");
        edges.beyond(six, "saw # 0 0", 0, 20, BAD);
        edges.beyond(six, "saw 0 # 0", 0, 5, BAD);
        edges.beyond(six, "saw 0 0 #", 0, 1, BAD);
        edges.says("20: room again, once nothing was SEEN");
        edges.does(six.and("forget"), "saw 0 0 1", 1);
        edges.does(six.and("told b1 1;"), "saw 0 0 1", 1);
    }

    private static void forget() {
        edges.says("21: Nothing was SEEN: how much there was");
        edges.keeps(SIX, "forget", 0);
        edges.does(BUSY, "forget", 1);
        edges.does(SIX.times(6, "saw 20 5 0"), "forget", 6);
        edges.says("21: nothing is left");
        edges.keeps(BUSY.and("forget"), "forget", 0);
        edges.keeps(BUSY.and("forget"), "count 2", 0);
        edges.keeps(BUSY.and("forget"), "fits", 63);
        edges.says("21: what is SEEN then counts alone");
        edges.keeps(BUSY.and("forget", "saw 0 5 1"), "fits", 32);
    }

    private static void fits() {
        edges.says("22: without anything SEEN all BOOKS");
        edges.keeps(SIX, "fits", 63);
        edges.keeps(NOWHERE, "fits", 7);
        edges.keeps(ALONE, "fits", 1);
        edges.keeps(NEW, "fits", 0);
        edges.says("22: behind 0 DAYS THE ONE is in a BOOK (is = 1), is not (0)");
        edges.keeps(WAY.and("saw 0 0 1"), "fits", 1);
        edges.keeps(WAY.and("saw 0 5 1"), "fits", 32);
        edges.keeps(WAY.and("saw 0 5 0"), "fits", 31);
        edges.says("22: behind 1, behind 20 DAYS");
        edges.keeps(WAY.and("saw 1 1 1"), "fits", 1);
        edges.keeps(WAY.and("saw 1 1 0"), "fits", 62);
        edges.keeps(WAY.and("saw 20 5 1"), "fits", 42);
        edges.keeps(WAY.and("saw 20 5 0"), "fits", 21);
        edges.says("22: none fits");
        edges.keeps(WAY.and("saw 20 0 1"), "fits", 0);
        edges.keeps(WAY.and("saw 0 1 1", "saw 0 1 0"), "fits", 0);
        edges.says("22: where it is does not count, nor whether it is anywhere");
        edges.keeps(WAY.and("saw 0 3 1", "puts 5"), "fits", 8);
        edges.keeps(NOWHERE.and("saw 0 2 1"), "fits", 4);
    }

    private static void fitsByAll() {
        edges.says("22: by all that was SEEN, the first to the sixth");
        for (int deciding = 0; deciding < 6; deciding++) {
            Scene scene = WAY.times(deciding, "saw 20 0 0").and("saw 0 2 0").times(5 - deciding, "saw 20 0 0");
            edges.keeps(scene, "count 2", 6);
            edges.keeps(scene, "fits", 59);
        }
        edges.says("22: each of six takes one away");
        Scene scene = WAY;
        for (int b = 0; b < 6; b++) {
            scene = scene.and("saw 0 " + b + " 0");
            edges.keeps(scene, "fits", 62 << b & 63);
        }
        edges.says("22: from NOW on: by what touches, is trapped, is WRITTEN now");
        edges.keeps(WAY.and("saw 1 1 1", "traps 0 1"), "fits", 0);
        edges.keeps(WAY.and("saw 1 1 1", "traps 1 1"), "fits", 3);
        edges.keeps(WAY.and("saw 1 5 1", "lays 0 5 1"), "fits", 17);
        edges.keeps(NEW.and("told b55 45;b80 0;b0 0;t2 0;t2 1;o2;", "saw 1 0 1"), "fits", 0);
        edges.keeps(NEW.and("told b55 45;b80 0;b0 0;t2 0;t2 1;o2;", "saw 1 0 1", "forgets 0 0"), "fits", 4);
    }

    private static void hides(Scene scene, int b, int nines, int elevens) {
        edges.keeps(scene, "hidden " + b + " 9", nines);
        edges.keeps(scene, "hidden " + b + " 11", elevens);
    }

    private static void hidden() {
        edges.says("23: BAD: by what is neither 9 nor 11");
        edges.keepsAll(BUSY, BAD, "hidden 0 8", "hidden 0 10", "hidden 0 12", "hidden 0 0", "hidden 0 1",
            "hidden 0 -9", "hidden 0 -11", "hidden 0 99", "hidden 0 2147483647", "hidden 0 -2147483648");
        edges.says("23: BAD: no such BOOK");
        edges.beyond(BUSY, "hidden # 9", 0, 5, BAD);
        edges.beyond(BUSY, "hidden # 11", 0, 5, BAD);
        edges.beyond(ALONE, "hidden # 9", 0, 0, BAD);
        edges.keeps(BUSY, "hidden 6 10", BAD);
        edges.says("23: one CARRY forgotten, THE ONE in it: the proofs find these");
        hides(NEW.and("told b555 445;o0;"), 0, 0, 0);
        hides(NEW.and("told b555 445;o0;", "forgets 0 0", "forgets 0 1"), 0, 0, 0);
        edges.says("23: each as if it alone were there");
        hides(NEW.and("told b123 999;o0;", "forgets 0 0", "forgets 0 1"), 0, 3, 1);
        edges.says("23: A, not B");
        hides(NEW.and("told b0 123;"), 0, 0, 0);
    }

    private static void hiddenNumbers() {
        edges.says("23: three figures, noughts ahead");
        Scene small = NEW.and("told b0 0;b1 0;b10 0;b100 0;b12 0;b120 0;");
        hides(small, 0, 0, 0);
        hides(small, 1, 2, 1);
        hides(small, 2, 2, 0);
        hides(small, 3, 2, 1);
        hides(small, 4, 3, 1);
        hides(small, 5, 3, 1);
        edges.says("23: each of these three, if it is another number");
        Scene alike = NEW.and("told b999 0;b112 0;b122 0;b121 0;b101 0;b990 0;");
        hides(alike, 0, 0, 0);
        hides(alike, 1, 2, 1);
        hides(alike, 2, 2, 1);
        hides(alike, 3, 2, 0);
        hides(alike, 4, 2, 0);
        hides(alike, 5, 2, 1);
        edges.says("23: ends of A (0 .. 999)");
        hides(NEW.and("told b998 0;"), 0, 2, 1);
        hides(NEW.and("told b987 0;"), 0, 3, 1);
    }

    private static void whys(Scene scene, int many, int each, int some) {
        edges.keepsRow(scene, "why #", many, each, some);
    }

    private static void why() {
        edges.says("24: BAD");
        edges.beyond(BUSY, "why #", 0, 2, BAD);
        edges.beyond(NEW, "why #", 0, 2, BAD);
        edges.says("24: no BOOKS: the one set of no errors");
        whys(NEW, 1, 0, 0);
        edges.says("24: THE ONE is in one of them, or nowhere; each BOOK, and nowhere, for itself");
        whys(NOWHERE, 1, 0, 0);
        whys(NOWHERE.and("puts 0"), 3, 0, 7);
        whys(NOWHERE.and("puts 2"), 3, 0, 7);
        edges.says("24: all alike in what the total tells: where it is does not count");
        edges.alike(NOWHERE.and("puts 0", "undo"), NOWHERE.and("puts 2", "undo"), "puts, undo");
    }

    private static void whyOfOne() {
        edges.says("24: each CARRY that there is may be forgotten, or not");
        // 0: none, or its CARRY of the ones and THE ONE in it.
        whys(ALONE, 2, 0, 1);
        whys(ALONE.and("puts 0"), 1, 1, 1);
        whys(ALONE.and("forgets 0 0"), 1, 1, 1);
        // 100 too few: the tens, or both and THE ONE.
        whys(ALONE.and("forgets 0 1"), 2, 1, 1);
        whys(ALONE.and("forgets 0 0", "forgets 0 1"), 1, 1, 1);
        whys(ALONE.and("forgets 0 0", "puts 0"), 2, 0, 1);
        whys(ALONE.and("forgets 0 1", "puts 0"), 1, 1, 1);
        edges.says("24: a CARRY that there is not is never forgotten");
        whys(NEW.and("told b50 50;"), 1, 0, 0);
        whys(NEW.and("told b50 50;", "forgets 0 1"), 1, 1, 1);
        whys(NEW.and("told b5 5;", "forgets 0 0"), 1, 1, 1);
        whys(NEW.and("told b0 0;"), 1, 0, 0);
        edges.says("24: something is wrong where only THE ONE is, too");
        whys(NEW.and("told b0 0;b5 5;"), 3, 0, 3);
        whys(NEW.and("told b0 0;b5 5;", "forgets 1 0"), 1, 2, 2);
        whys(NEW.and("told b0 0;b5 5;", "puts 0"), 2, 0, 3);
    }

    private static void whyOfSix() {
        Scene six = NEW.and("told b55 45;b55 45;b55 45;b55 45;b55 45;b55 45;");
        edges.says("24: six BOOKS: none, or THE ONE in one of six and one of six CARRIES");
        whys(six, 37, 0, 63);
        whys(six.and("puts 5"), 6, 0, 63);
        edges.says("24: all CARRIES of one place");
        Scene ones = six.and("forgets 0 0", "forgets 1 0", "forgets 2 0", "forgets 3 0", "forgets 4 0", "forgets 5 0");
        whys(ones, 1, 63, 63);
        whys(ones.and("puts 5"), 12, 0, 63);
        edges.says("24: all CARRIES");
        Scene all = ones.and("forgets 0 1", "forgets 1 1", "forgets 2 1", "forgets 3 1", "forgets 4 1", "forgets 5 1");
        whys(all, 1, 63, 63);
        // Five of the ones, or all six and THE ONE in one of six; the tens are forgotten in each.
        whys(all.and("puts 0"), 12, 63, 63);
        edges.says("24: the most sets");
        Scene most = six.and("forgets 0 0", "forgets 0 1", "forgets 1 0", "forgets 1 1", "forgets 2 1");
        whys(most, 20 * (15 + 6 * 20), 0, 63);
    }

    private static void proofs() {
        edges.says("25: PROOFS of k (0 .. 99) BOOKS: none to find, or one alone");
        edges.keepsRow(NEW, "proofs #", 0, 0, 1, 2, 2, 3, 3, 3, 3, 4);
        edges.says("25: one more at each power of two and one");
        int[] ends = {2, 4, 8, 16, 32, 64};
        for (int i = 0; i < ends.length; i++) {
            edges.keeps(BUSY, "proofs " + ends[i], i + 1);
            edges.keeps(BUSY, "proofs " + (ends[i] + 1), i + 2);
        }
        edges.keeps(BUSY, "proofs 98", 7);
        edges.keeps(BUSY, "proofs 99", 7);
        edges.says("25: as many as asked for, not as many as there are");
        edges.keeps(NEW, "proofs 99", 7);
        edges.says("25: BAD");
        edges.beyond(BUSY, "proofs #", 0, 99, BAD);
        edges.beyond(NEW, "proofs #", 0, 99, BAD);
    }
}
