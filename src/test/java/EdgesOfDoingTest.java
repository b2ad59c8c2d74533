/** The edges of "2 what is SHOWN and done" and of promises 6 to 13: what is done, UNDONE, and NOW. */
public final class EdgesOfDoingTest {
    private static final int BAD = Edges.BAD, STATE = Edges.STATE, NONE = Edges.NONE;
    private static final Scene NEW = Scenes.NEW, ALONE = Scenes.ALONE, SIX = Scenes.SIX, BUSY = Scenes.BUSY;
    private static final Scene NOWHERE = Scenes.NOWHERE, ALL_TOUCH = Scenes.ALL_TOUCH;
    private static final Edges edges = new Edges("EdgesOfDoingTest");

    public static void main(String[] args) {
        forgets();
        rights();
        puts();
        lays();
        laysToTheFull();
        traps();
        day();
        dayOfSeveral();
        day999();
        undo();
        undoOfEach();
        undoOfTen();
        undoOfNothingElse();
        now();
        proofs();
        edges.end();
    }

    private static void forgets() {
        edges.says("6: FORGOTTEN: what is WRITTEN then: 10 less (place 0), 100 (place 1)");
        edges.does(ALONE, "forgets 0 0", 90);
        edges.does(ALONE, "forgets 0 1", 0);
        edges.does(ALONE.and("forgets 0 0"), "forgets 0 1", -10);
        edges.does(ALONE.and("forgets 0 1"), "forgets 0 0", -10);
        edges.does(SIX, "forgets 5 0", 0);
        edges.does(NEW.and("told b999 999;"), "forgets 0 1", 1898);
        edges.says("6: what is WRITTEN, THE ONE or not");
        edges.does(ALONE.and("puts 0"), "forgets 0 0", 90);
        edges.says("6: what is WRITTEN, though it looks like STATE, FULL, NONE");
        for (int b = 41; b <= 49; b++) {
            Scene below = NEW.and("told b59 " + b + ";", "forgets 0 0");
            edges.does(below, "forgets 0 1", b - 51);
            edges.keeps(below.and("forgets 0 1"), "count 3", 2);
        }
        edges.says("6: it is known to UNDONE");
        edges.keeps(ALONE.and("forgets 0 0"), "count 3", 1);
        edges.says("6: BAD");
        edges.beyond(BUSY, "forgets # 0", 0, 5, BAD);
        edges.beyond(BUSY, "forgets 0 #", 0, 1, BAD);
        edges.beyond(ALONE, "forgets # 1", 0, 0, BAD);
        edges.says("6: STATE: there is none");
        edges.keepsAll(BUSY, STATE, "forgets 1 0", "forgets 1 1", "forgets 3 0", "forgets 3 1", "forgets 5 1");
        edges.keeps(NEW.and("told b4 5;"), "forgets 0 0", STATE);
        edges.keeps(NEW.and("told b44 55;"), "forgets 0 1", STATE);
        edges.keeps(NEW.and("told b45 45;"), "forgets 0 1", STATE);
        edges.keeps(NEW.and("told b900 900;"), "forgets 0 1", STATE);
        edges.says("6: STATE: it was");
        edges.keeps(BUSY, "forgets 2 1", STATE);
        edges.keeps(ALONE.and("forgets 0 0"), "forgets 0 0", STATE);
        edges.keepsRow(ALONE.and("forgets 0 0", "forgets 0 1"), "forgets 0 #", STATE, STATE);
        edges.says("6: not forgotten any more, once RIGHTED");
        edges.does(ALONE.and("forgets 0 0", "rights 0"), "forgets 0 0", 90);
        edges.says("6: BAD ahead of STATE");
        edges.keepsAll(BUSY, BAD, "forgets 6 1", "forgets -1 1", "forgets 1 2", "forgets 1 -1", "forgets 2 2",
            "forgets 6 2");
    }

    private static void rights() {
        edges.says("7: RIGHTED: how many were forgotten");
        edges.does(BUSY, "rights 2", 1);
        edges.does(ALONE.and("forgets 0 0"), "rights 0", 1);
        edges.does(ALONE.and("forgets 0 0", "forgets 0 1"), "rights 0", 2);
        edges.does(SIX.and("forgets 5 0"), "rights 5", 1);
        edges.says("7: nothing is forgotten, A and B together are WRITTEN");
        Scene righted = ALONE.and("forgets 0 0", "forgets 0 1", "rights 0");
        edges.keepsRow(righted, "book 0 #", 55, 45, 100, 100, 3, 0, 0, 0);
        edges.says("7: of that BOOK alone");
        edges.keeps(SIX.and("forgets 5 0", "forgets 4 1", "rights 5"), "book 4 5", 2);
        edges.keeps(SIX.and("forgets 0 0", "forgets 2 1", "rights 0"), "book 2 5", 2);
        edges.says("7: RIGHTED, each BOOK of six");
        Scene all = NEW.and("told b55 45;b55 45;b55 45;b55 45;b55 45;b55 45;");
        for (int b = 0; b < 6; b++) {
            all = all.and("forgets " + b + " 0", "forgets " + b + " 1");
        }
        for (int b = 0; b < 6; b++) {
            edges.keeps(all.and("rights " + b), "book " + b + " 5", 0);
            edges.keeps(all.and("rights " + b), "book " + b + " 2", 100);
            edges.keeps(all.and("rights " + b), "now 2", 50);
        }
        edges.says("7: BAD");
        edges.beyond(BUSY, "rights #", 0, 5, BAD);
        edges.beyond(ALONE, "rights #", 0, 0, BAD);
        edges.says("7: STATE: none");
        edges.keepsAll(BUSY, STATE, "rights 0", "rights 1", "rights 3", "rights 5");
        edges.keeps(righted, "rights 0", STATE);
    }

    private static void puts() {
        edges.says("8: PUT: where it was (NONE: nowhere)");
        edges.does(NOWHERE, "puts 0", NONE);
        edges.does(NOWHERE, "puts 2", NONE);
        edges.does(BUSY, "puts 0", 5);
        edges.does(SIX, "puts 5", 0);
        edges.says("8: THE ONE is in that BOOK from now on");
        edges.keeps(SIX.and("puts 5"), "now 1", 5);
        edges.keeps(SIX.and("puts 5"), "book 0 3", 100);
        edges.keeps(SIX.and("puts 5"), "book 5 3", 20);
        edges.says("8: out of a TRAP and into one: only a DAY is held by it");
        edges.does(SIX.and("traps 0 1", "traps 5 1"), "puts 5", 0);
        edges.says("8: BAD");
        edges.beyond(BUSY, "puts #", 0, 5, BAD);
        edges.beyond(ALONE, "puts #", 0, 0, BAD);
        edges.says("8: BAD, though it is nowhere, as NONE says");
        edges.keeps(NOWHERE, "puts -9", BAD);
        edges.says("8: STATE: it is there");
        edges.keeps(SIX, "puts 0", STATE);
        edges.keeps(BUSY, "puts 5", STATE);
        edges.keeps(ALONE.and("puts 0"), "puts 0", STATE);
    }

    private static void lays() {
        edges.says("9: LAID together (is = 1), apart (0): how many TOUCHES there are");
        edges.does(NOWHERE, "lays 0 1 1", 1);
        edges.does(SIX, "lays 0 5 1", 6);
        edges.does(SIX, "lays 5 0 1", 6);
        edges.does(SIX, "lays 0 1 0", 4);
        edges.does(SIX, "lays 5 4 0", 4);
        edges.says("9: BAD");
        edges.beyond(BUSY, "lays # 0 1", 0, 5, BAD);
        edges.beyond(BUSY, "lays 0 # 1", 0, 5, BAD);
        edges.beyond(BUSY, "lays 0 2 #", 0, 1, BAD);
        edges.beyond(BUSY, "lays 0 1 #", 0, 1, BAD);
        edges.beyond(NOWHERE, "lays # 0 1", 0, 2, BAD);
        edges.beyond(NOWHERE, "lays 0 # 1", 0, 2, BAD);
        edges.keeps(ALONE, "lays 0 1 1", BAD);
        edges.says("9: BAD (alike ones, too)");
        edges.keepsRow(BUSY, "lays # # 1", BAD, BAD, BAD, BAD, BAD, BAD);
        edges.says("9: STATE: it is so");
        edges.keepsAll(BUSY, STATE, "lays 0 1 1", "lays 1 0 1", "lays 5 0 1", "lays 0 2 0", "lays 2 0 0");
        edges.keeps(NOWHERE, "lays 0 2 0", STATE);
        edges.says("9: BAD ahead of STATE");
        edges.keepsRow(BUSY, "lays # # 0", BAD, BAD, BAD, BAD, BAD, BAD);
        edges.keepsAll(BUSY, BAD, "lays 0 6 0", "lays 6 0 0", "lays -1 0 0", "lays 0 -1 0", "lays 6 6 0",
            "lays 3 3 2");
    }

    private static void laysToTheFull() {
        edges.says("9: all fifteen TOUCHES, and none again");
        Scene scene = NEW.and("told b0 0;b0 0;b0 0;b0 0;b0 0;b0 0;");
        int many = 0;
        for (int x = 0; x < 6; x++) {
            for (int y = x + 1; y < 6; y++) {
                many++;
                edges.does(scene, "lays " + y + " " + x + " 1", many);
                scene = scene.and("lays " + y + " " + x + " 1");
            }
        }
        edges.keeps(scene, "now 6", 15);
        edges.keeps(scene, "lays 4 5 1", STATE);
        for (int x = 0; x < 6; x++) {
            for (int y = x + 1; y < 6; y++) {
                many--;
                edges.does(scene, "lays " + x + " " + y + " 0", many);
                scene = scene.and("lays " + x + " " + y + " 0");
            }
        }
        edges.keeps(scene, "now 6", 0);
        edges.keeps(scene, "lays 0 1 0", STATE);
    }

    private static void traps() {
        edges.says("10: TRAP (1), none (0): how many there are");
        Scene scene = SIX;
        for (int b = 0; b < 6; b++) {
            edges.does(scene, "traps " + b + " 1", b + 1);
            scene = scene.and("traps " + b + " 1");
        }
        edges.says("10: STATE: it is so");
        edges.keepsRow(scene, "traps # 1", STATE, STATE, STATE, STATE, STATE, STATE);
        edges.keepsRow(SIX, "traps # 0", STATE, STATE, STATE, STATE, STATE, STATE);
        edges.says("10: none (0)");
        for (int b = 0; b < 6; b++) {
            edges.does(scene, "traps " + b + " 0", 5 - b);
            scene = scene.and("traps " + b + " 0");
        }
        edges.keeps(scene, "traps 5 0", STATE);
        edges.says("10: BAD");
        edges.beyond(BUSY, "traps # 1", 0, 5, BAD);
        edges.beyond(BUSY, "traps 0 #", 0, 1, BAD);
        edges.beyond(ALONE, "traps # 1", 0, 0, BAD);
        edges.says("10: BAD ahead of STATE");
        edges.beyond(BUSY, "traps # 0", 0, 5, BAD);
        edges.beyond(BUSY, "traps 3 #", 0, 1, BAD);
        edges.keeps(BUSY, "traps 6 2", BAD);
    }

    private static void day() {
        edges.says("11: A DAY: none touches: it stays; the DAY is one more");
        edges.does(ALONE.and("puts 0"), "day", 0);
        edges.keeps(ALONE.and("puts 0", "day"), "now 0", 1);
        edges.does(NOWHERE.and("puts 2", "lays 0 1 1"), "day", 2);
        edges.says("11: a TRAP: it stays; the DAY is one more");
        edges.does(SIX.and("traps 0 1"), "day", 0);
        edges.keeps(SIX.and("traps 0 1", "day"), "now 0", 1);
        edges.says("11: a TRAP where it goes to does not hold it off");
        edges.does(SIX.and("traps 1 1"), "day", 1);
        edges.says("11: nowhere: it stays; the DAY is one more");
        edges.does(NOWHERE.and("lays 0 1 1"), "day", NONE);
        edges.keeps(NOWHERE.and("lays 0 1 1", "day"), "now 0", 1);
        edges.keeps(NOWHERE.and("lays 0 1 1", "day"), "now 1", NONE);
        edges.does(NEW.and("told b0 0;b0 0;b0 0;b0 0;b0 0;b0 0;t0 1;t0 5;t1 2;t3 4;t4 5;t3 5;"), "day", NONE);
        edges.says("11: the DAY is known to UNDONE, wherever THE ONE is");
        edges.keeps(NOWHERE.and("day"), "count 3", 1);
        edges.keeps(SIX.and("day"), "count 3", 1);
    }

    private static void dayOfSeveral() {
        edges.says("11: to that BOOK of which TENS are most");
        edges.does(NEW.and("told b0 0;b10 0;b90 0;b89 0;t0 1;t0 2;t0 3;o0;"), "day", 2);
        edges.does(NEW.and("told b0 0;b190 0;b20 0;b980 0;t0 1;t0 2;t0 3;o0;"), "day", 1);
        edges.says("11: of several the least");
        edges.does(NEW.and("told b0 0;b99 0;b90 0;b91 0;t0 1;t0 2;t0 3;o0;"), "day", 1);
        edges.does(NEW.and("told b0 0;b0 0;b0 0;t2 1;t2 0;o2;"), "day", 0);
        edges.does(ALL_TOUCH, "day", 1);
        edges.does(ALL_TOUCH.and("puts 5"), "day", 0);
        edges.says("11: only one that touches");
        edges.does(NEW.and("told b0 0;b90 0;b10 0;t0 2;o0;"), "day", 2);
        edges.says("11: TENS of what is SHOWN: 0, if that is below 0");
        Scene below = NEW.and("told b55 45;b9 0;b10 0;t2 0;t2 1;o2;", "forgets 0 0", "forgets 0 1");
        edges.keeps(below, "book 0 3", -10);
        edges.does(below, "day", 0);
        edges.does(NEW.and("told b9 0;b55 45;b10 0;t2 0;t2 1;o2;", "forgets 1 0", "forgets 1 1"), "day", 0);
        edges.does(NEW.and("told b55 45;b10 0;b0 0;t2 0;t2 1;o2;", "forgets 0 0", "forgets 0 1"), "day", 1);
        edges.says("11: TENS by what was forgotten and RIGHTED");
        edges.does(NEW.and("told b55 45;b80 0;b0 0;t2 0;t2 1;o2;"), "day", 1);
        edges.does(NEW.and("told b55 45;b80 0;b0 0;t2 0;t2 1;o2;", "forgets 0 0"), "day", 0);
        edges.does(NEW.and("told b55 45;b80 0;b0 0;t2 0;t2 1;o2;", "forgets 0 0", "rights 0"), "day", 1);
    }

    private static void day999() {
        // Behind an even number of DAYS it is in 5 again, else in 4.
        Scene eve = SIX.ofManyCalls().and("puts 5").times(998, "day");
        edges.says("11: 999 at most: the last DAY");
        edges.keeps(eve, "now 0", 998);
        edges.does(eve, "day", 4);
        Scene last = eve.and("day");
        edges.keeps(last, "now 0", 999);
        edges.says("11: STATE: it is DAY 999");
        edges.keeps(last, "day", STATE);
        edges.keeps(NOWHERE.ofManyCalls().times(999, "day"), "day", STATE);
        edges.says("11: what is UNDONE at DAY 999 may be again");
        edges.does(last, "undo", 9);
        edges.does(last.and("undo"), "day", 4);
        edges.says("11: DAY 999 is kept in an IMAGE, too");
        edges.does(last, "keep 0", 999);
        edges.does(last.and("keep 0", "undo"), "back 0", 999);
        edges.says("11: from DAY 999 on, nobody doing anything, it goes on");
        edges.keeps(last, "inDays 99", 5);
    }

    private static void undo() {
        edges.says("12: STATE: none");
        edges.keeps(NEW, "undo", STATE);
        edges.keeps(SIX, "undo", STATE);
        edges.keeps(SIX.and("day", "undo"), "undo", STATE);
        edges.says("12: UNDONE: how many more may be");
        edges.does(SIX.and("day"), "undo", 0);
        edges.does(SIX.and("day", "day"), "undo", 1);
        edges.does(BUSY, "undo", 7);
        edges.says("12: all is as ahead of it");
        edges.alike(SIX.and("day", "day", "undo", "undo"), SIX, "two done and two UNDONE");
        edges.says("12: what is UNDONE is not known any more");
        edges.alike(SIX.and("day", "undo", "traps 1 1"), SIX.and("traps 1 1"), "UNDONE, and other done");
        Scene again = SIX.and("forgets 2 1", "traps 3 1", "day", "undo", "lays 0 1 0", "lays 4 5 0", "rights 2",
            "traps 3 0", "puts 1");
        edges.alike(again.and("day", "undo"), again, "UNDONE, done otherwise, a DAY, UNDONE");
    }

    private static void undoOfEach() {
        edges.says("12: the latest of all these: all is as ahead of it");
        String[] done = {"forgets 4 0", "forgets 4 1", "forgets 0 0", "forgets 5 0", "rights 2", "puts 0", "puts 3",
            "lays 0 2 1", "lays 3 5 1", "lays 0 1 0", "lays 4 5 0", "traps 0 1", "traps 5 1", "traps 3 0", "day"};
        for (String call : done) {
            edges.does(BUSY.and(call), "undo", 8);
            edges.alike(BUSY.and(call, "undo"), BUSY, call + ", undo");
        }
        edges.says("12: THE ONE nowhere as ahead of it");
        edges.alike(NOWHERE.and("puts 2", "undo"), NOWHERE, "puts 2, undo");
        edges.says("12: both CARRIES forgotten as ahead of it");
        Scene both = ALONE.and("forgets 0 0", "forgets 0 1");
        edges.alike(both.and("rights 0", "undo"), both, "rights 0, undo");
        edges.says("12: the DAY as ahead of it, though THE ONE stayed");
        edges.keeps(ALONE.and("day", "undo"), "now 0", 0);
    }

    private static void undoOfTen() {
        edges.says("12: 10 are known");
        edges.keeps(SIX.times(9, "day"), "count 3", 9);
        edges.keeps(SIX.times(10, "day"), "count 3", 10);
        edges.does(SIX.times(10, "day"), "undo", 9);
        edges.alike(SIX.times(10, "day").times(10, "undo"), SIX, "ten done and ten UNDONE");
        edges.says("12: older ones are lost");
        edges.keeps(SIX.times(11, "day"), "count 3", 10);
        edges.does(SIX.times(11, "day"), "undo", 9);
        edges.keeps(SIX.times(11, "day").times(10, "undo"), "undo", STATE);
        edges.keeps(SIX.times(11, "day").times(10, "undo"), "now 0", 1);
        edges.keeps(SIX.times(25, "day").times(10, "undo"), "now 0", 15);
        edges.does(SIX.times(11, "day").times(10, "undo").and("puts 5"), "undo", 0);
        Scene scene = SIX.times(13, "day");
        for (int more = 9; more >= 0; more--) {
            edges.does(scene, "undo", more);
            scene = scene.and("undo");
            edges.keeps(scene, "now 0", 3 + more);
        }
    }

    private static void undoOfNothingElse() {
        edges.says("12: only these are UNDONE: what was SEEN, kept, typed, marked stays");
        Scene after = SIX.and("day", "saw 1 1 1", "keep 1", "mark 0 0", "text b1", "undo");
        edges.keepsRow(after, "count #", 6, 0, 1, 0, 2);
        edges.keeps(after, "trace", 1);
        edges.does(after, "back 1", 1);
        edges.keeps(SIX.and("saw 1 1 1", "day", "forget", "undo"), "count 2", 0);
        edges.says("12: none of the others is known to UNDONE");
        Scene others = SIX.and("saw 1 1 1", "forget", "keep 0", "back 0", "mark 0 0", "text b1", "clear");
        edges.keeps(others, "undo", STATE);
        edges.says("12: a refused call is not known to UNDONE");
        Scene refused = BUSY;
        edges.keepsAll(refused, STATE, "forgets 2 1", "rights 0", "puts 5", "lays 0 1 1", "traps 3 1");
        edges.keeps(refused, "count 3", 8);
    }

    private static void now() {
        edges.says("13: 0 the DAY .. 6 TOUCHES");
        edges.keepsRow(BUSY, "now #", 2, 5, 2173, 2263, 36, 36, 6);
        edges.says("13: BAD");
        edges.beyond(BUSY, "now #", 0, 6, BAD);
        edges.beyond(NEW, "now #", 0, 6, BAD);
        edges.says("13: 1 where THE ONE is (NONE: nowhere)");
        edges.keeps(ALONE, "now 1", NONE);
        edges.keeps(ALONE.and("puts 0"), "now 1", 0);
        edges.says("13: 2 all that is SHOWN together, 3 all A and B together: the most");
        Scene most = NEW.and("told b999 999;b999 999;b999 999;b999 999;b999 999;b999 999;o5;");
        edges.keeps(most, "now 2", 11998);
        edges.keeps(most, "now 3", 11988);
        edges.says("13: 2 all that is SHOWN together: below 0");
        edges.keeps(ALONE.and("forgets 0 0", "forgets 0 1"), "now 2", -10);
        edges.says("13: 6 TOUCHES: none, all fifteen");
        edges.keeps(ALONE, "now 6", 0);
        edges.keeps(ALL_TOUCH, "now 6", 15);
    }

    private static void proofs() {
        edges.says("13: NINES, ELEVENS: nothing is wrong");
        edges.keepsRow(ALONE, "now #", 0, NONE, 100, 100, 0, 0, 0);
        // What is SHOWN less A and B together, and whether 9, whether 11 does not divide it.
        proof("10 too many", ALONE.and("puts 0"), 1, 1);
        proof("10 too few", ALONE.and("forgets 0 0"), 1, 1);
        proof("100 too few", ALONE.and("forgets 0 1"), 1, 1);
        proof("110 too few", ALONE.and("forgets 0 0", "forgets 0 1"), 1, 0);
        proof("10 too few and 10 too many", ALONE.and("forgets 0 0", "puts 0"), 0, 0);
        proof("100 too few and 10 too many", ALONE.and("forgets 0 1", "puts 0"), 0, 1);
        proof("110 too few and 10 too many", ALONE.and("forgets 0 0", "forgets 0 1", "puts 0"), 1, 1);
        edges.says("13: NINES, ELEVENS: BOOKS (bits), all six");
        Scene all = NEW.and("told b5 5;b5 5;b5 5;b5 5;b5 5;b5 5;", "forgets 0 0", "forgets 1 0", "forgets 2 0",
            "forgets 3 0", "forgets 4 0", "forgets 5 0");
        edges.keepsAll(all, 63, "now 4", "now 5");
    }

    private static void proof(String what, Scene scene, int nines, int elevens) {
        edges.says("13: NINES, ELEVENS: " + what);
        edges.keeps(scene, "now 4", nines);
        edges.keeps(scene, "now 5", elevens);
    }
}
