import java.util.List;

/** Rows of the edge tests: the sentence of the document, a scene, a call, what is due. */
final class Edges {
    static final int BAD = -1, STATE = -2, FULL = -3, NONE = -9, NO = -1000000;

    private final Check check;
    private String sentence = "";

    Edges(String test) {
        check = new Check(test);
    }

    void end() {
        check.end();
    }

    /** The sentence that the next rows hold the program to. */
    void says(String words) {
        sentence = words + " | ";
    }

    /** A call that does something answers so. */
    void does(Scene scene, String call, long want) {
        check.due(sentence + call, scene.made().call(call), want);
    }

    /** A call that asks, or is refused, answers so, and nothing at all has changed. */
    void keeps(Scene scene, String call, long want) {
        List<List<Long>> before = scene.parts();
        for (int part = 0; part < Life.PARTS; part++) {
            Life life = scene.made();
            check.due(sentence + call, life.call(call), want);
            boolean alike = life.part(part).equals(before.get(part));
            check.holds(sentence + call + " leaves all as it was, part " + part, alike);
        }
    }

    /** The same for each of the calls. */
    void keepsAll(Scene scene, long want, String... calls) {
        for (String call : calls) {
            keeps(scene, call, want);
        }
    }

    /** Each call's answer when # is 0, 1, 2, ..; nothing changes. */
    void keepsRow(Scene scene, String call, long... wants) {
        for (int i = 0; i < wants.length; i++) {
            keeps(scene, call.replace("#", "" + i), wants[i]);
        }
    }

    /** Refused when # is one below the least, one above the most, or far beyond. */
    void beyond(Scene scene, String call, int least, int most, long refusal) {
        for (int n : new int[] {least - 1, most + 1, Integer.MIN_VALUE, Integer.MAX_VALUE}) {
            keeps(scene, call.replace("#", "" + n), refusal);
        }
    }

    /** Two ways lead to the same: nothing tells one from the other. */
    void alike(Scene one, Scene other, String what) {
        for (int part = 0; part < Life.PARTS; part++) {
            boolean alike = one.parts().get(part).equals(other.parts().get(part));
            check.holds(sentence + what + ", part " + part, alike);
        }
    }

    void due(String what, long got, long want) {
        check.due(sentence + what, got, want);
    }
}
