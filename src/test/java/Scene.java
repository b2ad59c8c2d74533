import java.util.ArrayList;
import java.util.Collections;
import java.util.List;

/**
 * A state that can be made anew as often as wanted: the steps that lead there, in order.
 * A step is "told TEXT" (typed and read), "text TEXT" (typed alone) or a call: "lays 0 1 1".
 */
final class Scene {
    private static final int CALLS_OF_DOCUMENT = 512;

    private final List<String> steps = new ArrayList<>();
    private int mostCalls = CALLS_OF_DOCUMENT;
    private List<List<Long>> parts;

    Scene(String... steps) {
        this.steps.addAll(List.of(steps));
    }

    Scene and(String... more) {
        Scene longer = new Scene(more);
        longer.steps.addAll(0, steps);
        longer.mostCalls = mostCalls;
        return longer;
    }

    Scene times(int n, String step) {
        return and(Collections.nCopies(n, step).toArray(new String[0]));
    }

    /** For DAY 999 alone: no object comes there within the calls that the document speaks of. */
    Scene ofManyCalls() {
        Scene longer = and();
        longer.mostCalls = 5000;
        return longer;
    }

    Life made() {
        Life life = new Life(mostCalls);
        for (String step : steps) {
            life.lead(step);
        }
        return life;
    }

    /** All that an object in this state has; each part is asked of an object of its own. */
    List<List<Long>> parts() {
        if (parts == null) {
            parts = new ArrayList<>();
            for (int part = 0; part < Life.PARTS; part++) {
                parts.add(made().part(part));
            }
        }
        return parts;
    }
}
