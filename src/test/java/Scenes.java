/** Scenes that several of the edge tests look at. */
final class Scenes {
    /** No BOOKS. */
    static final Scene NEW = new Scene();

    /** One BOOK with both CARRIES, THE ONE nowhere. */
    static final Scene ALONE = new Scene("told b55 45;");

    /** Three BOOKS alike in TENS, nothing touches, THE ONE nowhere. */
    static final Scene NOWHERE = new Scene("told b10 0;b10 0;b10 0;");

    /** Six BOOKS, TENS 0 3 9 0 2 1, CARRIES 3 0 3 0 3 1, each touches the next; THE ONE in the first. */
    static final Scene SIX = new Scene("told b55 45;b10 20;b999 999;b0 0;b58 67;b1 9;"
        + "t0 1;t1 2;t2 3;t3 4;t4 5;o0;");

    /** The same six with something of everything done: it is DAY 2, THE ONE in the last. */
    static final Scene BUSY = SIX.and("forgets 0 0", "lays 0 5 1", "traps 3 1", "day", "keep 0", "mark 3 0",
        "saw 2 1 1", "rights 0", "keep 1", "puts 4", "day", "forgets 2 1");

    /** Six BOOKS whose TENS grow, each touches the next, THE ONE in the first. */
    static final Scene WAY = new Scene("told b10 0;b20 0;b30 0;b40 0;b50 0;b60 0;"
        + "t0 1;t1 2;t2 3;t3 4;t4 5;o0;");

    /** Six BOOKS with nothing in them, all fifteen TOUCHES, THE ONE in the first. */
    static final Scene ALL_TOUCH = new Scene("told b0 0;b0 0;b0 0;b0 0;b0 0;b0 0;t0 1;t0 2;t0 3;t0 4;t0 5;"
        + "t1 2;t1 3;t1 4;t1 5;t2 3;t2 4;t2 5;t3 4;t3 5;t4 5;o0;");

    private Scenes() {
    }
}
