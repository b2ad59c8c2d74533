/** The edges of "4 KINDS and IMAGES" and of promises 26 to 30. */
public final class EdgesOfKindsTest {
    private static final int BAD = Edges.BAD, STATE = Edges.STATE, NONE = Edges.NONE, NO = Edges.NO;
    private static final Scene NEW = Scenes.NEW, ALONE = Scenes.ALONE, SIX = Scenes.SIX, BUSY = Scenes.BUSY;
    private static final Scene NOWHERE = Scenes.NOWHERE, ALL_TOUCH = Scenes.ALL_TOUCH;
    private static final Edges edges = new Edges("EdgesOfKindsTest");

    public static void main(String[] args) {
        markRefused();
        mark();
        markChangesTheTrace();
        keep();
        back();
        backToAll();
        backUndone();
        backNothingElse();
        count();
        trace();
        edges.end();
    }

    private static void markRefused() {
        edges.says("26: NO: BAD");
        edges.beyond(BUSY, "mark # 0", 0, 5, NO);
        edges.beyond(BUSY, "mark 0 #", 0, 5, NO);
        edges.beyond(BUSY, "mark 4 #", 0, 5, NO);
        edges.beyond(ALONE, "mark 0 #", 0, 0, NO);
        edges.keepsAll(BUSY, NO, "mark 6 6", "mark -1 -1");
        edges.keepsRow(NEW, "mark # 0", NO, NO, NO, NO, NO, NO);
    }

    private static void marks(Scene scene, int b, int... wants) {
        for (int kind = 0; kind < wants.length; kind++) {
            edges.does(scene, "mark " + kind + " " + b, wants[kind]);
        }
    }

    private static void mark() {
        edges.says("26: 0 BOOK .. 5 CHOIR");
        marks(BUSY, 0, 100, 100, 0, 200, 2, 102);
        marks(BUSY, 2, 1898, 1907, -100, 3814, -98, 1900);
        edges.says("26: what it has SHOWN, its TENS: THE ONE counts");
        marks(BUSY, 5, 20, 22, 10, 44, 12, 22);
        marks(NEW.and("told b90 0;o0;"), 0, 100, 100, 10, 200, 10, 100);
        edges.says("26: TENS (0, if that is below 0)");
        marks(ALONE.and("forgets 0 0", "forgets 0 1"), 0, -10, -10, -110, -20, -110, -10);
        marks(NEW.and("told b59 49;", "forgets 0 0", "forgets 0 1"), 0, -2, -2, -110, -4, -110, -2);
        marks(ALONE.and("forgets 0 0", "forgets 0 1", "puts 0"), 0, 0, 0, -100, 0, -100, 0);
        edges.says("26: TENS: the tens' figure alone");
        marks(NEW.and("told b9 0;"), 0, 9, 9, 0, 18, 0, 9);
        marks(NEW.and("told b10 0;"), 0, 10, 11, 0, 22, 0, 10);
        marks(NEW.and("told b999 0;"), 0, 999, 1008, 0, 2016, 0, 999);
        marks(NEW.and("told b999 999;o0;"), 0, 2008, 2008, 10, 4016, 10, 2008);
        edges.says("26: how many BOOKS touch it: none, five; DAY 0");
        marks(NOWHERE, 2, 10, 11, 0, 22, 0, 10);
        marks(ALL_TOUCH, 5, 0, 0, 0, 0, 5, 0);
        marks(ALL_TOUCH, 0, 10, 11, 10, 22, 15, 10);
    }

    private static void markChangesTheTrace() {
        edges.says("26: numbers in brackets come to THE TRACE as often as mark() asks that body");
        int[] comes = {1, 11, 101, 1011, 10101, 100001};
        for (int kind = 0; kind < 6; kind++) {
            edges.keeps(ALONE.and("mark " + kind + " 0"), "trace", comes[kind]);
        }
        edges.says("26: nothing else changes");
        edges.alike(BUSY.and("mark 3 2"), BUSY.and("mark 3 0"), "marks of one KIND");
    }

    private static void keep() {
        edges.says("27: An IMAGE is kept: the DAY");
        edges.does(NEW, "keep 0", 0);
        edges.does(NEW, "keep 1", 0);
        edges.does(BUSY, "keep 0", 2);
        edges.does(BUSY, "keep 1", 2);
        edges.says("27: BAD");
        edges.beyond(BUSY, "keep #", 0, 1, BAD);
        edges.beyond(NEW, "keep #", 0, 1, BAD);
        edges.says("27: NOW is as it was, and it is nothing to be UNDONE");
        edges.keeps(SIX.and("keep 0"), "undo", STATE);
        edges.keeps(BUSY.and("keep 0"), "count 3", 8);
        edges.keeps(BUSY.and("keep 0"), "now 0", 2);
        edges.says("27: what was kept before is gone");
        edges.does(SIX.and("keep 0", "day", "keep 0"), "back 0", 1);
        edges.does(SIX.and("day", "keep 0", "undo", "keep 0"), "back 0", 0);
        edges.says("27: each IMAGE for itself");
        edges.does(SIX.and("keep 0", "day", "keep 1"), "back 0", 0);
        edges.does(SIX.and("keep 0", "day", "keep 1"), "back 1", 1);
        edges.says("27: what is done behind it does not come to it");
        edges.alike(SIX.and("keep 0", "forgets 0 0", "traps 5 1", "lays 0 1 0", "day", "puts 3", "back 0"),
            SIX.and("keep 0"), "keep, much, back");
    }

    private static void back() {
        edges.says("28: STATE: none was kept");
        edges.keepsRow(NEW, "back #", STATE, STATE);
        edges.keepsRow(SIX, "back #", STATE, STATE);
        edges.keeps(SIX.and("keep 0"), "back 1", STATE);
        edges.keeps(SIX.and("keep 1"), "back 0", STATE);
        edges.says("28: BAD");
        edges.beyond(BUSY, "back #", 0, 1, BAD);
        edges.says("28: BAD ahead of STATE");
        edges.beyond(NEW, "back #", 0, 1, BAD);
        edges.beyond(SIX, "back #", 0, 1, BAD);
        edges.says("28: All of that becomes as an IMAGE has it: the DAY");
        edges.does(BUSY, "back 0", 1);
        edges.does(BUSY, "back 1", 1);
        edges.does(NEW.and("keep 1", "day"), "back 1", 0);
        edges.says("28: it stays kept");
        edges.alike(BUSY.and("back 0", "back 0"), BUSY.and("back 0"), "back, back");
        edges.does(BUSY.and("back 0", "day", "back 1"), "back 0", 1);
        edges.says("28: STATE: IMAGES are gone with a TEXT that is read");
        edges.keepsRow(BUSY.and("told b1 1;"), "back #", STATE, STATE);
        edges.says("28: IMAGES stay with a TEXT that has a FAULT");
        Scene fault = BUSY.and("text b");
        edges.keeps(fault, "books", -11);
        edges.does(fault, "back 1", 1);
    }

    private static void backToAll() {
        edges.says("28: what is WRITTEN, forgotten, TOUCHES, TRAPS, THE ONE, the DAY, what may be UNDONE");
        Scene scene = SIX.and("forgets 0 1", "forgets 5 0", "traps 0 1", "traps 5 1", "lays 0 5 1", "lays 0 1 0");
        Scene kept = scene.and("puts 5", "day", "keep 0", "keep 1");
        for (String image : new String[] {"back 0", "back 1"}) {
            edges.alike(kept.and("rights 0", image), kept, "rights 0, " + image);
            edges.alike(kept.and("rights 5", image), kept, "rights 5, " + image);
            edges.alike(kept.and("forgets 0 0", image), kept, "forgets 0 0, " + image);
            edges.alike(kept.and("lays 5 0 0", image), kept, "lays 5 0 0, " + image);
            edges.alike(kept.and("lays 0 1 1", image), kept, "lays 0 1 1, " + image);
            edges.alike(kept.and("lays 3 5 1", image), kept, "lays 3 5 1, " + image);
            edges.alike(kept.and("traps 5 0", image), kept, "traps 5 0, " + image);
            edges.alike(kept.and("traps 2 1", image), kept, "traps 2 1, " + image);
            edges.alike(kept.and("puts 0", image), kept, "puts 0, " + image);
            edges.alike(kept.and("day", image), kept, "day, " + image);
            edges.alike(kept.and("undo", image), kept, "undo, " + image);
        }
        edges.says("28: THE ONE nowhere as an IMAGE has it");
        edges.keeps(NOWHERE.and("keep 1", "puts 2", "back 1"), "now 1", NONE);
    }

    private static void backUndone() {
        edges.says("28: what may be UNDONE: none, ten");
        edges.keeps(SIX.and("keep 0").times(10, "day").and("back 0"), "undo", STATE);
        Scene ten = SIX.times(11, "day").and("keep 1");
        edges.alike(ten.times(10, "undo").and("back 1"), ten, "ten UNDONE, back 1");
        edges.alike(ten.times(10, "day").and("back 1"), ten, "ten more done, back 1");
        edges.does(ten.times(10, "undo").and("back 1"), "undo", 9);
        edges.says("28: back is nothing that may be UNDONE");
        edges.keeps(SIX.and("keep 0", "back 0"), "undo", STATE);
        edges.says("28: what is done behind it is UNDONE ahead of what the IMAGE has");
        Scene behind = SIX.and("traps 5 1", "keep 0", "day", "back 0", "puts 4");
        edges.keeps(behind, "count 3", 2);
        edges.does(behind, "undo", 1);
        edges.keeps(behind.and("undo"), "now 1", 0);
        edges.keeps(behind.and("undo", "undo"), "count 1", 0);
    }

    private static void backNothingElse() {
        edges.says("28: nothing else: what was SEEN, THE TEXT, THE TRACE stay");
        Scene scene = SIX.and("saw 0 0 1", "keep 0", "saw 0 1 1", "text b1", "mark 0 0", "back 0");
        edges.keepsRow(scene, "count #", 6, 0, 2, 0, 2);
        edges.keeps(scene, "fits", 0);
        edges.keeps(scene, "trace", 1);
        edges.keeps(SIX.and("saw 0 0 1", "keep 0", "forget", "back 0"), "count 2", 0);
        edges.says("28: nothing else: the other IMAGE stays");
        edges.does(SIX.and("day", "keep 1", "day", "keep 0", "back 1"), "back 0", 2);
    }

    private static void count() {
        edges.says("29: 0 BOOKS, 1 TRAPS, 2 SEEN, 3 how many may be UNDONE, 4 bytes of THE TEXT: none");
        edges.keepsRow(NEW, "count #", 0, 0, 0, 0, 0);
        edges.says("29: something of each");
        edges.keepsRow(BUSY.and("text b1 2"), "count #", 6, 1, 1, 8, 4);
        edges.says("29: all full");
        Scene full = NEW.and("told b0 0;b0 0;b0 0;b0 0;b0 0;b0 0;", "traps 0 1", "traps 1 1", "traps 2 1",
            "traps 3 1", "traps 4 1", "traps 5 1").times(5, "day").times(6, "saw 0 0 0");
        edges.keepsRow(full, "count #", 6, 6, 6, 10, 0);
        edges.keeps(NEW.and("text " + " ".repeat(150)), "count 4", 150);
        edges.says("29: BAD");
        edges.beyond(BUSY, "count #", 0, 4, BAD);
        edges.beyond(NEW, "count #", 0, 4, BAD);
    }

    private static void trace() {
        edges.says("30: THE TRACE (0 at first; of all calls ever, together)");
        edges.keeps(NEW, "trace", 0);
        edges.keeps(SIX, "trace", 0);
        Scene all = SIX.and("mark 0 0", "mark 1 1", "mark 2 2", "mark 3 3", "mark 4 4", "mark 5 5");
        edges.keeps(all, "trace", 111226);
        edges.says("30: THE TRACE stays");
        edges.keeps(all.and("day", "undo"), "trace", 111226);
        edges.keeps(SIX.and("keep 0", "mark 5 5", "back 0"), "trace", 100001);
        edges.keeps(all.and("books"), "trace", 111226);
        edges.keeps(all.and("told b1 1;"), "trace", 111226);
        edges.says("30: only mark() comes to it");
        edges.keeps(BUSY.and("forget", "clear", "undo", "keep 0", "back 0"), "trace", 1011);
        edges.says("30: as much as an object's calls can bring");
        Life life = ALONE.made();
        for (int i = 0; i < 500; i++) {
            life.call("mark 5 0");
        }
        edges.due("trace of 500 marks", life.call("trace"), 50000500L);
    }
}
