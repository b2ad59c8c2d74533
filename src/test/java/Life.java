import java.util.ArrayList;
import java.util.List;

/** One object, called by texts, and how many calls it has had: a test never goes beyond what is promised. */
final class Life {
    /** What shows at once, what may be UNDONE, the two IMAGES, THE TEXT. */
    static final int PARTS = 5;

    private final CarriedOne x = new CarriedOne();
    private final int mostCalls;
    private int calls;

    Life(int mostCalls) {
        this.mostCalls = mostCalls;
    }

    long call(String call) {
        String[] words = call.split(" ");
        int[] numbers = new int[words.length - 1];
        for (int i = 0; i < numbers.length; i++) {
            numbers[i] = Integer.parseInt(words[i + 1]);
        }
        calls++;
        if (calls > mostCalls) {
            throw new IllegalStateException("more than " + mostCalls + " calls, at " + call);
        }
        return Model.callReal(x, words[0], numbers);
    }

    void lead(String step) {
        if (step.startsWith("text ")) {
            types(step.substring(5));
        } else if (step.startsWith("told ")) {
            types(step.substring(5));
            leads(call("books") >= 0, step);
        } else {
            long got = call(step);
            // What is WRITTEN may be as low as -10, so forgets() is not told from a refusal here.
            boolean refused = got == -1 || got == -2 || got == -3 || got == -1000000;
            leads(!refused || step.startsWith("forgets"), step);
        }
    }

    private void types(String text) {
        for (int i = 0; i < text.length(); i++) {
            leads(call("type " + (int) text.charAt(i)) > 0, text);
        }
    }

    private static void leads(boolean so, String step) {
        if (!so) {
            throw new IllegalStateException("refused on the way: " + step);
        }
    }

    List<Long> part(int part) {
        List<Long> all = new ArrayList<>();
        switch (part) {
            case 0:
                shows(all);
                break;
            case 1:
                takesBack(all);
                break;
            case 2:
            case 3:
                all.add(call("back " + (part - 2)));
                showsNow(all);
                takesBack(all);
                break;
            default:
                all.add(call("books"));
                shows(all);
        }
        return all;
    }

    private void shows(List<Long> all) {
        showsNow(all);
        for (String call : new String[] {"trace", "fits", "now 3", "now 4", "now 5", "inDays 1",
            "round 0", "round 1", "why 0", "why 1", "why 2"}) {
            all.add(call(call));
        }
        for (int what = 0; what < 5; what++) {
            all.add(call("count " + what));
        }
        for (int b = 0; b < 6; b++) {
            for (int what = 0; what < 5; what++) {
                all.add(call("book " + b + " " + what));
            }
        }
    }

    // What undo() and back() bring again, by as few calls as may be.
    private void showsNow(List<Long> all) {
        for (String call : new String[] {"now 0", "now 1", "now 2", "now 6", "count 1"}) {
            all.add(call(call));
        }
        for (int b = 0; b < 6; b++) {
            for (int what = 5; what < 8; what++) {
                all.add(call("book " + b + " " + what));
            }
        }
    }

    private void takesBack(List<Long> all) {
        for (int i = 0; i < 11; i++) {
            long more = call("undo");
            all.add(more);
            if (more < 0) {
                return;
            }
            showsNow(all);
        }
    }
}
