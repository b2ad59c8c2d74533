/** The edges of "3 from NOW on" and of promises 14 to 19: where THE ONE goes. */
public final class EdgesOfGoingTest {
    private static final int BAD = Edges.BAD, STATE = Edges.STATE, NONE = Edges.NONE;
    private static final Scene NEW = Scenes.NEW, ALONE = Scenes.ALONE, SIX = Scenes.SIX, BUSY = Scenes.BUSY;
    private static final Scene NOWHERE = Scenes.NOWHERE, ALL_TOUCH = Scenes.ALL_TOUCH, WAY = Scenes.WAY;
    private static final Scene HERE = ALONE.and("puts 0");
    // Six BOOKS and no TOUCHES, TENS of book 4 alone; THE ONE in 5.
    private static final Scene APART = new Scene("told b0 0;b0 0;b0 0;b0 0;b10 0;b0 0;o5;");
    private static final Edges edges = new Edges("EdgesOfGoingTest");

    public static void main(String[] args) {
        inDays();
        round();
        from();
        lureRefused();
        lure();
        lureOfSeveral();
        lureDays();
        cutRefused();
        cut();
        cutOfSeveral();
        oddsRefused();
        odds();
        oddsByHand();
        edges.end();
    }

    private static void inDays() {
        edges.says("14: IN n (0 .. 99) DAYS: the BOOK");
        edges.keepsRow(WAY, "inDays #", 0, 1, 2, 3, 4, 5, 4, 5);
        edges.keeps(WAY, "inDays 98", 4);
        edges.keeps(WAY, "inDays 99", 5);
        edges.keepsAll(HERE, 0, "inDays 0", "inDays 1", "inDays 99");
        edges.says("14: into a TRAP, and no farther");
        edges.keeps(WAY.and("traps 3 1"), "inDays 3", 3);
        edges.keeps(WAY.and("traps 3 1"), "inDays 99", 3);
        edges.keeps(WAY.and("traps 0 1"), "inDays 99", 0);
        edges.says("14: NONE (nowhere)");
        edges.keepsAll(ALONE, NONE, "inDays 0", "inDays 1", "inDays 99");
        edges.keepsAll(NEW, NONE, "inDays 0", "inDays 99");
        edges.says("14: BAD");
        edges.beyond(BUSY, "inDays #", 0, 99, BAD);
        edges.says("14: BAD, also nowhere");
        edges.beyond(NOWHERE, "inDays #", 0, 99, BAD);
        edges.beyond(NEW, "inDays #", 0, 99, BAD);
    }

    private static void round() {
        edges.says("15: ROUND: of one that stays 0; 1");
        edges.keepsRow(HERE, "round #", 0, 1);
        edges.keepsRow(NOWHERE.and("puts 2"), "round #", 0, 1);
        edges.keepsRow(SIX.and("traps 0 1"), "round #", 0, 1);
        edges.says("15: of one that is in its round now");
        edges.keepsRow(WAY.and("puts 5"), "round #", 0, 2);
        edges.keepsRow(WAY.and("puts 4"), "round #", 0, 2);
        edges.says("15: of one that comes there");
        edges.keepsRow(WAY.and("puts 3"), "round #", 1, 2);
        edges.keepsRow(WAY, "round #", 4, 2);
        edges.says("15: of one that stays behind the longest way");
        edges.keepsRow(WAY.and("traps 5 1"), "round #", 5, 1);
        edges.says("15: NONE (nowhere)");
        edges.keepsRow(ALONE, "round #", NONE, NONE);
        edges.keepsRow(NEW, "round #", NONE, NONE);
        edges.says("15: BAD");
        edges.beyond(BUSY, "round #", 0, 1, BAD);
        edges.says("15: BAD, also nowhere");
        edges.beyond(NOWHERE, "round #", 0, 1, BAD);
        edges.beyond(NEW, "round #", 0, 1, BAD);
    }

    private static void from() {
        edges.says("16: FROM a BOOK by n (0 .. 20) DAYS: by 0 it must be there");
        for (int b = 0; b < 6; b++) {
            edges.keeps(WAY, "from " + b + " 0", 1 << b);
        }
        edges.keeps(HERE, "from 0 0", 1);
        edges.says("16: by 1, by 19, by 20");
        edges.keeps(WAY, "from 5 1", 16);
        edges.keeps(WAY, "from 5 19", 21);
        edges.keeps(WAY, "from 5 20", 42);
        edges.keeps(HERE, "from 0 20", 1);
        edges.says("16: no BOOK, all BOOKS");
        edges.keeps(WAY, "from 0 1", 0);
        edges.keeps(WAY, "from 0 20", 0);
        edges.keeps(WAY.and("traps 5 1"), "from 5 5", 63);
        edges.keeps(WAY.and("traps 5 1"), "from 5 4", 62);
        edges.says("16: THE ONE nowhere: asked all the same");
        edges.keeps(NOWHERE, "from 2 20", 4);
        edges.keeps(NOWHERE.and("lays 0 1 1"), "from 1 1", 1);
        edges.says("16: BAD");
        edges.beyond(BUSY, "from # 1", 0, 5, BAD);
        edges.beyond(BUSY, "from 0 #", 0, 20, BAD);
        edges.beyond(NOWHERE, "from # 0", 0, 2, BAD);
        edges.keeps(BUSY, "from 6 21", BAD);
    }

    private static void lureRefused() {
        edges.says("17: BAD");
        edges.beyond(BUSY, "lure # 1 0", 0, 5, BAD);
        edges.beyond(BUSY, "lure 0 # 0", 1, 20, BAD);
        edges.beyond(BUSY, "lure 0 1 #", 0, 2, BAD);
        edges.beyond(HERE, "lure # 1 0", 0, 0, BAD);
        edges.says("17: STATE: THE ONE is nowhere");
        edges.keepsRow(NOWHERE, "lure 0 1 #", STATE, STATE, STATE);
        edges.keeps(ALONE, "lure 0 20 0", STATE);
        edges.says("17: BAD ahead of STATE");
        edges.beyond(NOWHERE, "lure # 1 0", 0, 2, BAD);
        edges.beyond(NOWHERE, "lure 0 # 0", 1, 20, BAD);
        edges.beyond(NOWHERE, "lure 0 1 #", 0, 2, BAD);
        edges.keeps(NEW, "lure 0 1 0", BAD);
    }

    private static void lured(Scene scene, String call, int many, int first, int second) {
        edges.keepsRow(scene, "lure " + call + " #", many, first, second);
    }

    private static void lure() {
        edges.says("17: LURE: no more TOUCHES are needed: 0 (NONE: not so many)");
        lured(HERE, "0 1", 0, NONE, NONE);
        lured(HERE, "0 20", 0, NONE, NONE);
        lured(WAY, "1 1", 0, NONE, NONE);
        lured(WAY, "4 20", 0, NONE, NONE);
        edges.says("17: one more: the first, no second");
        lured(APART, "0 1", 1, 5, NONE);
        lured(APART, "4 1", 1, 45, NONE);
        lured(APART.and("puts 0"), "1 1", 1, 1, NONE);
        lured(APART.and("puts 4"), "5 1", 1, 45, NONE);
        edges.says("17: two more: the first, the second");
        lured(APART, "0 2", 2, 1, 15);
        lured(APART.and("puts 3"), "4 2", 2, 3, 4);
        edges.says("17: NONE: by no two");
        lured(WAY.and("traps 0 1"), "1 1", NONE, NONE, NONE);
        lured(WAY.and("traps 1 1"), "5 2", 1, 4, NONE);
        lured(WAY.and("traps 1 1"), "0 2", NONE, NONE, NONE);
        edges.says("17: NONE: there are no more TOUCHES");
        lured(ALL_TOUCH, "5 1", NONE, NONE, NONE);
        lured(HERE.and("told b0 0;b0 0;t0 1;o0;"), "0 1", NONE, NONE, NONE);
        edges.says("17: more TOUCHES of BOOKS that there are");
        lured(NEW.and("told b0 0;b0 0;o0;"), "1 1", 1, 1, NONE);
        lured(NEW.and("told b0 0;b0 0;o0;"), "1 2", NONE, NONE, NONE);
    }

    private static void lureOfSeveral() {
        edges.says("17: of several ways the first");
        Scene scene = APART.and("puts 3");
        lured(scene, "4 2", 2, 3, 4);
        scene = scene.and("traps 0 1");
        lured(scene, "4 2", 2, 13, 14);
        scene = scene.and("traps 1 1");
        lured(scene, "4 2", 2, 23, 24);
        scene = scene.and("traps 2 1");
        lured(scene, "4 2", 2, 35, 45);
        edges.says("17: a touch that is there is not one more");
        lured(scene.and("lays 3 5 1"), "4 2", 1, 45, NONE);
        edges.says("17: NONE, when the last way is trapped");
        lured(scene.and("traps 5 1"), "4 2", NONE, NONE, NONE);
        // From 0 to 5, whose TENS are most, by 1 .. 4 or with what they touch: 01 and 15 come first.
        edges.says("17: the first by the first of two, then by the second");
        lured(NEW.and("told b0 0;b0 0;b0 0;b0 0;b0 0;b90 0;o0;"), "5 2", 2, 1, 15);
        lured(NEW.and("told b0 0;b0 0;b0 0;b0 0;b0 0;b90 0;o0;", "traps 1 1"), "5 2", 2, 2, 25);
        lured(NEW.and("told b0 0;b0 0;b0 0;b0 0;b0 0;b90 0;t0 4;o0;"), "5 2", 1, 45, NONE);
    }

    private static void lureDays() {
        edges.says("17: THE ONE is there then (behind just n DAYS), not ahead of it, not behind it");
        lured(WAY, "5 5", 0, NONE, NONE);
        lured(WAY, "5 4", 1, 2, NONE);
        lured(WAY, "5 7", 0, NONE, NONE);
        edges.says("17: in 1 DAY, in 19, in 20");
        lured(WAY, "5 1", 1, 5, NONE);
        lured(WAY, "5 19", 0, NONE, NONE);
        lured(WAY, "5 20", 1, 2, NONE);
        lured(APART, "0 20", 2, 1, 15);
        lured(APART, "0 19", 1, 5, NONE);
        edges.says("17: it must not go away before: out of where it is by an odd number");
        lured(NOWHERE.and("puts 1"), "1 20", 0, NONE, NONE);
        lured(NOWHERE.and("puts 1", "lays 0 1 1"), "1 1", NONE, NONE, NONE);
    }

    private static void cutRefused() {
        edges.says("18: BAD");
        edges.beyond(BUSY, "cut #", 0, 5, BAD);
        edges.beyond(HERE, "cut #", 0, 0, BAD);
        edges.says("18: STATE: THE ONE is nowhere");
        edges.keepsRow(NOWHERE, "cut #", STATE, STATE, STATE);
        edges.says("18: BAD ahead of STATE");
        edges.beyond(NOWHERE, "cut #", 0, 2, BAD);
        edges.keeps(NEW, "cut 0", BAD);
    }

    private static void cut() {
        edges.says("18: CUT: NONE (it is there)");
        edges.keeps(HERE, "cut 0", NONE);
        edges.keeps(SIX, "cut 0", NONE);
        edges.keeps(SIX.and("traps 0 1"), "cut 0", NONE);
        edges.keeps(ALL_TOUCH.and("puts 5"), "cut 5", NONE);
        edges.says("18: 0, if it does not come anyway");
        edges.keepsRow(WAY.and("traps 0 1"), "cut #", NONE, 0, 0, 0, 0, 0);
        edges.keepsRow(NOWHERE.and("puts 1"), "cut #", 0, NONE, 0);
        edges.keepsRow(ALL_TOUCH, "cut #", NONE, 1, 0, 0, 0, 0);
        edges.says("18: 0, when a TRAP or a round holds it on the way");
        edges.keeps(WAY.and("traps 4 1"), "cut 5", 0);
        edges.keeps(WAY.and("puts 5"), "cut 3", 0);
        edges.says("18: it comes to the BOOK on the longest way");
        edges.keeps(WAY, "cut 5", 1);
        edges.keeps(WAY.and("puts 4"), "cut 5", 16384);
        edges.says("18: always as of 6 BOOKS");
        edges.keeps(NEW.and("told b0 0;b0 0;b0 0;t1 2;o1;"), "cut 2", 32);
        edges.keeps(NEW.and("told b0 0;b0 0;t0 1;o1;"), "cut 0", 1);
    }

    private static void cutOfSeveral() {
        edges.says("18: TOUCHES by their twos in order, 01, 02, .. 45");
        int bit = 1;
        for (int x = 0; x < 6; x++) {
            for (int y = x + 1; y < 6; y++) {
                Scene two = NEW.and("told b0 0;b0 0;b0 0;b0 0;b0 0;b0 0;t" + x + " " + y + ";o" + x + ";");
                edges.keeps(two, "cut " + y, bit);
                bit *= 2;
            }
        }
        edges.says("18: of several the least");
        edges.keeps(NEW.and("told b0 0;b10 0;b20 0;t0 1;t1 2;o0;"), "cut 2", 1);
        edges.keeps(NEW.and("told b0 0;b10 0;b20 0;t0 1;t1 2;o2;"), "cut 0", 0);
        edges.keeps(NEW.and("told b20 0;b10 0;b0 0;t0 1;t1 2;o2;"), "cut 0", 1);
        edges.says("18: the fewest: two, though a lesser number has more");
        edges.keeps(NEW.and("told b0 0;b10 0;b20 0;b30 0;b90 0;t0 4;t0 1;t1 4;t0 2;t2 4;o0;"), "cut 4", 8 + 1024);
        edges.says("18: the fewest: three");
        edges.keeps(NEW.and("told b0 0;b10 0;b20 0;b30 0;b90 0;t0 1;t0 2;t0 3;t0 4;t1 2;t1 3;t1 4;t2 3;t2 4;t3 4;o0;"),
            "cut 4", 8 + 1024 + 4096);
        // All four of book 0; Model tries every set, and none of three is enough.
        edges.says("18: the fewest: four");
        edges.keeps(NEW.and("told b0 0;b20 0;b50 0;b30 0;b40 0;b10 0;t0 1;t0 2;t0 3;t0 5;t1 2;t1 3;t1 4;t2 3;t2 4;"
            + "t3 5;t4 5;o0;"), "cut 2", 1 + 2 + 4 + 16);
    }

    private static void oddsRefused() {
        edges.says("19: BAD");
        edges.beyond(BUSY, "odds # 1 0 0", 0, 10, BAD);
        edges.beyond(BUSY, "odds 1 # 0 0", 0, 6, BAD);
        edges.beyond(BUSY, "odds 1 1 # 0", 0, 5, BAD);
        edges.beyond(BUSY, "odds 1 1 0 #", 0, 1, BAD);
        edges.beyond(HERE, "odds 1 1 # 0", 0, 0, BAD);
        edges.says("19: STATE: THE ONE is nowhere");
        edges.keepsAll(NOWHERE, STATE, "odds 0 0 0 0", "odds 10 6 2 1", "odds 5 3 1 0");
        edges.says("19: BAD ahead of STATE");
        edges.beyond(NOWHERE, "odds # 1 0 0", 0, 10, BAD);
        edges.beyond(NOWHERE, "odds 1 # 0 0", 0, 6, BAD);
        edges.beyond(NOWHERE, "odds 1 1 # 0", 0, 2, BAD);
        edges.beyond(NOWHERE, "odds 1 1 0 #", 0, 1, BAD);
        edges.keeps(NEW, "odds 0 0 0 0", BAD);
    }

    private static void fraction(Scene scene, String call, int upper, int lower) {
        edges.keepsRow(scene, "odds " + call + " #", upper, lower);
    }

    private static void odds() {
        edges.says("19: ODDS by 0 DAYS: it is where it is");
        fraction(WAY, "0 0 0", 1, 1);
        fraction(WAY, "10 0 0", 1, 1);
        fraction(WAY, "5 0 1", 0, 1);
        edges.says("19: it never shies (0 in 10)");
        fraction(WAY, "0 1 1", 1, 1);
        fraction(WAY, "0 1 0", 0, 1);
        fraction(WAY, "0 6 4", 1, 1);
        fraction(WAY, "0 6 5", 0, 1);
        edges.says("19: it always shies (10 in 10)");
        fraction(WAY, "10 1 0", 1, 1);
        fraction(WAY, "10 6 0", 1, 1);
        fraction(WAY, "10 6 1", 0, 1);
        edges.says("19: in a TRAP, alone: it stays, shy or not");
        fraction(WAY.and("traps 0 1"), "3 6 0", 1, 1);
        fraction(HERE, "7 6 0", 1, 1);
        edges.says("19: it can't be there then: 0, in least terms");
        fraction(WAY, "5 3 4", 0, 1);
        fraction(WAY.and("puts 5"), "5 6 0", 0, 1);
    }

    private static void oddsByHand() {
        edges.says("19: upper, lower number, in least terms");
        fraction(WAY, "1 1 0", 1, 10);
        fraction(WAY, "1 1 1", 9, 10);
        fraction(WAY, "9 1 1", 1, 10);
        fraction(WAY, "5 1 0", 1, 2);
        fraction(WAY, "5 1 1", 1, 2);
        edges.says("19: the greatest lower number: 1000000");
        fraction(WAY, "1 6 0", 1, 1000000);
        fraction(WAY, "3 6 0", 729, 1000000);
        // Of six DAYS it goes on five: 6 * 9^5 / 10^6 = 354294 / 1000000.
        fraction(WAY, "1 6 5", 177147, 500000);
        // In 4 behind four DAYS of going, and behind six: (15 * 9^4 + 9^6) / 10^6 = 629856 / 1000000.
        fraction(WAY, "1 6 4", 19683, 31250);
        edges.says("19: each DAY, each for itself");
        fraction(WAY.and("puts 5"), "1 2 5", 41, 50);
        fraction(WAY.and("puts 5"), "1 2 4", 9, 50);
    }
}
