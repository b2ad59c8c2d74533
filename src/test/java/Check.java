/** Counts answers that are not as due, and prints them. */
final class Check {
    private final String test;
    private int wrong = 0;
    private int asked = 0;

    Check(String test) {
        this.test = test;
    }

    void due(String call, long got, long want) {
        asked++;
        if (got != want) {
            wrong++;
            if (wrong <= 50) {
                System.out.println(test + ": " + call + " answered " + got + ", due is " + want);
            }
        }
    }

    void holds(String what, boolean so) {
        due(what, so ? 1 : 0, 1);
    }

    int wrongs() {
        return wrong;
    }

    void end() {
        if (wrong != 0) {
            System.out.println(test + ": " + wrong + " of " + asked + " answers are not as due");
            System.exit(1);
        }
        System.out.println(test + ": " + asked + " answers are as due");
    }

    /** A new object with the text typed and not read yet. */
    static CarriedOne typed(String text) {
        CarriedOne x = new CarriedOne();
        type(x, text);
        return x;
    }

    static void type(CarriedOne x, String text) {
        for (int i = 0; i < text.length(); i++) {
            x.type(text.charAt(i));
        }
    }

    /** A new object that has read the text. */
    static CarriedOne told(String text) {
        CarriedOne x = typed(text);
        if (x.books() < 0) {
            throw new IllegalArgumentException("a fault in " + text);
        }
        return x;
    }
}
