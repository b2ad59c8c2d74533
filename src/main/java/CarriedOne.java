/**
 * Books of two numbers and a sum, and a one that a clerk forgot: it sits now in this
 * sum, now in that, and makes it ten too many. Books are numbered from 0; a set of
 * books, carries or touches is one int, a bit for each.
 */
public final class CarriedOne {
    public static final int BAD = -1, STATE = -2, FULL = -3, NONE = -9;
    public static final int NO = -1000000;

    private static final int MOST_BOOKS = 6;
    private static final int MOST_TOUCHES = 15;
    private static final int MOST_BYTES = 150;
    private static final int MOST_NUMBER = 999;
    private static final int MOST_KNOWN = 10;
    private static final int MOST_SEEN = 6;
    private static final int LAST_DAY = 999;
    private static final int MOST_DAYS_TOLD = 99;
    private static final int MOST_DAYS_SEEN = 20;
    private static final int MOST_DAYS_OF_ODDS = 6;
    private static final int MOST_PROVEN = 99;
    private static final int FAULT_AT_0 = -10;
    private static final int WORTH_OF_ONE = 10;

    private static final int KIND_BOOK = 0, KIND_RATES = 1, KIND_TRAIN = 2;
    private static final int KIND_LEDGER = 3, KIND_SHOP = 4, KIND_CHOIR = 5;

    private static final int END = 0, LETTERS = 1, NUMBER = 2, SEMICOLON = 3, WRONG = 4;

    private final Text text = new Text();
    private final Books draft = new Books();
    private final Books told = new Books();
    private final Now now = new Now();
    private final History history = new History();
    private final Image firstImage = new Image();
    private final Image secondImage = new Image();
    private final Seen seen = new Seen();
    private final Ways ways = new Ways();
    private long traced;

    public CarriedOne() {
    }

    // ---- the books

    public int type(int c) {
        if (!within(c, 0, 255)) {
            return BAD;
        }
        return text.append(c) ? text.length : FULL;
    }

    public int clear() {
        int had = text.length;
        text.length = 0;
        return had;
    }

    public int books() {
        draft.empty();
        int items = text.readItems(draft);
        if (items < 0) {
            return FAULT_AT_0 - text.begin;
        }
        told.copyFrom(draft);
        now.begin(told);
        history.known = 0;
        firstImage.kept = false;
        secondImage.kept = false;
        seen.size = 0;
        text.length = 0;
        return items;
    }

    public int book(int b, int what) {
        if (!isBook(b)) {
            return BAD;
        }
        switch (what) {
            case 0: return told.a[b];
            case 1: return told.b[b];
            case 2: return written(b);
            case 3: return shown(b);
            case 4: return told.carries(b);
            case 5: return now.forgottenIn(b);
            case 6: return neighbours(b);
            case 7: return now.isTrap(b) ? 1 : 0;
            default: return BAD;
        }
    }

    // ---- what is done

    public int forgets(int b, int place) {
        if (!isBook(b) || !within(place, 0, 1)) {
            return BAD;
        }
        int carry = 1 << place;
        if ((told.carries(b) & ~now.forgottenIn(b) & carry) == 0) {
            return STATE;
        }
        remember();
        now.forgotten |= carry << 2 * b;
        return written(b);
    }

    public int rights(int b) {
        if (!isBook(b)) {
            return BAD;
        }
        int were = now.forgottenIn(b);
        if (were == 0) {
            return STATE;
        }
        remember();
        now.forgotten &= ~(3 << 2 * b);
        return Integer.bitCount(were);
    }

    public int puts(int b) {
        if (!isBook(b)) {
            return BAD;
        }
        if (now.one == b) {
            return STATE;
        }
        remember();
        int was = now.one;
        now.one = b;
        return was;
    }

    public int lays(int a, int b, int is) {
        if (!isBook(a) || !isBook(b) || a == b || !within(is, 0, 1)) {
            return BAD;
        }
        int bit = touchBit(a, b);
        if (((now.touches & bit) != 0) == (is == 1)) {
            return STATE;
        }
        remember();
        now.touches ^= bit;
        return Integer.bitCount(now.touches);
    }

    public int traps(int b, int is) {
        if (!isBook(b) || !within(is, 0, 1)) {
            return BAD;
        }
        if (now.isTrap(b) == (is == 1)) {
            return STATE;
        }
        remember();
        now.trapped ^= 1 << b;
        return Integer.bitCount(now.trapped);
    }

    public int day() {
        if (now.date >= LAST_DAY) {
            return STATE;
        }
        remember();
        if (isSomewhere()) {
            now.one = waysNow().goesTo(now.one, now.touches);
        }
        now.date++;
        return now.one;
    }

    public int undo() {
        if (history.known == 0) {
            return STATE;
        }
        now.unpack(history.takeLatest());
        return history.known;
    }

    public int now(int what) {
        switch (what) {
            case 0: return now.date;
            case 1: return now.one;
            case 2: return shownTogether();
            case 3: return summedTogether();
            case 4: return notDividedBy(9);
            case 5: return notDividedBy(11);
            case 6: return Integer.bitCount(now.touches);
            default: return BAD;
        }
    }

    // ---- where it goes

    public int inDays(int n) {
        if (!within(n, 0, MOST_DAYS_TOLD)) {
            return BAD;
        }
        return isSomewhere() ? waysNow().walk(now.one, n, now.touches) : NONE;
    }

    public int round(int what) {
        if (!within(what, 0, 1)) {
            return BAD;
        }
        if (!isSomewhere()) {
            return NONE;
        }
        int length = waysNow().lengthOfRound(now.one, now.touches);
        return what == 1 ? length : ways.daysToRound(now.one, length, now.touches);
    }

    public int from(int b, int n) {
        if (!isBook(b) || !within(n, 0, MOST_DAYS_SEEN)) {
            return BAD;
        }
        waysNow();
        int bits = 0;
        for (int start = 0; start < told.size; start++) {
            if (ways.walk(start, n, now.touches) == b) {
                bits |= 1 << start;
            }
        }
        return bits;
    }

    public int lure(int b, int n, int what) {
        if (!isBook(b) || !within(n, 1, MOST_DAYS_SEEN) || !within(what, 0, 2)) {
            return BAD;
        }
        if (!isSomewhere()) {
            return STATE;
        }
        int more = fewestMoreTouches(b, n);
        if (more == NONE) {
            return NONE;
        }
        int first = Integer.lowestOneBit(more);
        switch (what) {
            case 0: return Integer.bitCount(more);
            case 1: return twoOf(first);
            default: return twoOf(more & ~first);
        }
    }

    public int cut(int b) {
        if (!isBook(b)) {
            return BAD;
        }
        if (!isSomewhere()) {
            return STATE;
        }
        return now.one == b ? NONE : fewestTouchesToCut(b);
    }

    public int odds(int x, int n, int b, int what) {
        if (!within(x, 0, 10) || !within(n, 0, MOST_DAYS_OF_ODDS)) {
            return BAD;
        }
        if (!isBook(b) || !within(what, 0, 1)) {
            return BAD;
        }
        if (!isSomewhere()) {
            return STATE;
        }
        int upper = chancesOf(x, n, b);
        int lower = power(10, n);
        int divisor = Math.max(1, greatestDivisor(upper, lower));
        return (what == 0 ? upper : lower) / divisor;
    }

    // ---- what was seen, what is wrong

    public int saw(int n, int b, int is) {
        if (!within(n, 0, MOST_DAYS_SEEN) || !isBook(b) || !within(is, 0, 1)) {
            return BAD;
        }
        return seen.append(n, b, is == 1) ? seen.size : FULL;
    }

    public int forget() {
        int had = seen.size;
        seen.size = 0;
        return had;
    }

    public int fits() {
        waysNow();
        int bits = 0;
        for (int start = 0; start < told.size; start++) {
            if (fitsFrom(start)) {
                bits |= 1 << start;
            }
        }
        return bits;
    }

    public int hidden(int b, int by) {
        if (!isBook(b) || (by != 9 && by != 11)) {
            return BAD;
        }
        return hiddenMisreadings(told.a[b], by);
    }

    public int why(int what) {
        switch (what) {
            case 0: return setsWithout(NONE);
            case 1: return booksInEachSet();
            case 2: return booksInSomeSet();
            default: return BAD;
        }
    }

    public int proofs(int k) {
        if (!within(k, 0, MOST_PROVEN)) {
            return BAD;
        }
        // Each proof halves at best: as many as the binary figures of k - 1.
        return k < 2 ? 0 : 32 - Integer.numberOfLeadingZeros(k - 1);
    }

    // ---- kinds, images

    public int mark(int kind, int b) {
        if (!isBook(b)) {
            return NO;
        }
        switch (kind) {
            case KIND_BOOK: return markOfBook(b);
            case KIND_RATES: return markOfRates(b);
            case KIND_TRAIN: return markOfTrain(b);
            case KIND_LEDGER: return markOfLedger(b);
            case KIND_SHOP: return markOfShop(b);
            case KIND_CHOIR: return markOfChoir(b);
            default: return NO;
        }
    }

    public int keep(int image) {
        if (!within(image, 0, 1)) {
            return BAD;
        }
        imageOf(image).fill(now, history);
        return now.date;
    }

    public int back(int image) {
        if (!within(image, 0, 1)) {
            return BAD;
        }
        if (!imageOf(image).kept) {
            return STATE;
        }
        imageOf(image).restore(now, history);
        return now.date;
    }

    public int count(int what) {
        switch (what) {
            case 0: return told.size;
            case 1: return Integer.bitCount(now.trapped);
            case 2: return seen.size;
            case 3: return history.known;
            case 4: return text.length;
            default: return BAD;
        }
    }

    public long trace() {
        return traced;
    }

    // ---- of a book

    private boolean isBook(int b) {
        return within(b, 0, told.size - 1);
    }

    private boolean isSomewhere() {
        return isBook(now.one);
    }

    private int written(int b) {
        int forgotten = now.forgottenIn(b);
        return told.sum(b) - 10 * (forgotten & 1) - 100 * (forgotten >> 1);
    }

    private int shown(int b) {
        return now.one == b ? written(b) + WORTH_OF_ONE : written(b);
    }

    private int neighbours(int b) {
        int bits = 0;
        for (int other = 0; other < told.size; other++) {
            if (other != b && (now.touches & touchBit(b, other)) != 0) {
                bits |= 1 << other;
            }
        }
        return bits;
    }

    private int shownTogether() {
        int together = 0;
        for (int b = 0; b < told.size; b++) {
            together += shown(b);
        }
        return together;
    }

    private int summedTogether() {
        int together = 0;
        for (int b = 0; b < told.size; b++) {
            together += told.sum(b);
        }
        return together;
    }

    private int notDividedBy(int by) {
        int bits = 0;
        for (int b = 0; b < told.size; b++) {
            if (!divides(by, shown(b) - told.sum(b))) {
                bits |= 1 << b;
            }
        }
        return bits;
    }

    private void remember() {
        history.append(now.packed());
    }

    private Image imageOf(int image) {
        return image == 0 ? firstImage : secondImage;
    }

    // ---- of where it goes

    // THE ONE is never in the book it goes to, so what is written there decides, and one
    // row of the books by their tens serves every start.
    private Ways waysNow() {
        ways.size = 0;
        ways.trapped = now.trapped;
        for (int b = 0; b < told.size; b++) {
            ways.rank(b, tensOf(written(b)));
        }
        return ways;
    }

    // A touch that is there already, or of no book, changes nothing: it is never among
    // the fewest, so all may be tried.
    private int fewestMoreTouches(int goal, int days) {
        waysNow();
        if (lures(0, goal, days)) {
            return 0;
        }
        int one = firstSingleLure(goal, days);
        return one != NONE ? one : firstDoubleLure(goal, days);
    }

    private int firstSingleLure(int goal, int days) {
        for (int i = 0; i < MOST_TOUCHES; i++) {
            if (lures(1 << i, goal, days)) {
                return 1 << i;
            }
        }
        return NONE;
    }

    private int firstDoubleLure(int goal, int days) {
        for (int i = 0; i < MOST_TOUCHES; i++) {
            for (int j = i + 1; j < MOST_TOUCHES; j++) {
                int more = 1 << i | 1 << j;
                if (lures(more, goal, days)) {
                    return more;
                }
            }
        }
        return NONE;
    }

    private boolean lures(int more, int goal, int days) {
        return ways.walk(now.one, days, now.touches | more) == goal;
    }

    // Laying apart all that touches one book is always enough, so fewer than six are.
    private int fewestTouchesToCut(int goal) {
        if (!waysNow().comesTo(goal, now.one, now.touches)) {
            return 0;
        }
        for (int size = 1; size < MOST_BOOKS; size++) {
            int least = leastCut(goal, size);
            if (least != NONE) {
                return least;
            }
        }
        return NONE;
    }

    private int leastCut(int goal, int size) {
        int all = 1 << MOST_TOUCHES;
        int cut = (1 << size) - 1;
        for (int i = 0; i < all && cut < all; i++) {
            if ((cut & ~now.touches) == 0 && !ways.comesTo(goal, now.one, now.touches & ~cut)) {
                return cut;
            }
            cut = nextOfSameSize(cut);
        }
        return NONE;
    }

    // Each day it goes by 10 - x in 10 wherever it is, so only how often it goes tells
    // where it is then.
    private int chancesOf(int x, int days, int goal) {
        waysNow();
        int chances = 0;
        for (int goes = 0; goes <= days; goes++) {
            if (ways.walk(now.one, goes, now.touches) == goal) {
                chances += choose(days, goes) * power(10 - x, goes) * power(x, days - goes);
            }
        }
        return chances;
    }

    private boolean fitsFrom(int start) {
        for (int i = 0; i < seen.size; i++) {
            int then = ways.walk(start, seen.days[i], now.touches);
            if ((then == seen.books[i]) != seen.there[i]) {
                return false;
            }
        }
        return true;
    }

    // ---- of what is wrong

    // A carry forgotten is 10 or 100 too few, THE ONE 10 too many: neither 9 nor 11 divides
    // these, so both proofs always find them.
    private static int hiddenMisreadings(int a, int by) {
        int ones = a % 10;
        int tens = a / 10 % 10;
        int hundreds = a / 100;
        return hiddenMisreading(a, number(hundreds, ones, tens), by)
            + hiddenMisreading(a, number(tens, hundreds, ones), by)
            + hiddenMisreading(a, number(ones, tens, hundreds), by);
    }

    private static int hiddenMisreading(int a, int misread, int by) {
        return misread != a && divides(by, misread - a) ? 1 : 0;
    }

    private int booksInEachSet() {
        int bits = 0;
        for (int b = 0; b < told.size; b++) {
            if (setsWithout(b) == 0) {
                bits |= 1 << b;
            }
        }
        return bits;
    }

    private int booksInSomeSet() {
        int all = setsWithout(NONE);
        int bits = 0;
        for (int b = 0; b < told.size; b++) {
            if (setsWithout(b) < all) {
                bits |= 1 << b;
            }
        }
        return bits;
    }

    // How many sets explain the total with nothing wrong in the book `clean`.
    private int setsWithout(int clean) {
        int carriesOfOnes = 0;
        int carriesOfTens = 0;
        int placesOfOne = 0;
        for (int b = 0; b < told.size; b++) {
            if (b != clean) {
                carriesOfOnes += told.carries(b) & 1;
                carriesOfTens += told.carries(b) >> 1;
                placesOfOne++;
            }
        }
        int lack = summedTogether() - shownTogether();
        return waysToLack(lack, carriesOfOnes, carriesOfTens)
            + placesOfOne * waysToLack(lack + WORTH_OF_ONE, carriesOfOnes, carriesOfTens);
    }

    // At most six carries of one place: ten of the lesser never stand for one of the
    // greater, so the figures of the lack tell how many of each were forgotten.
    private static int waysToLack(int lack, int carriesOfOnes, int carriesOfTens) {
        if (lack < 0) {
            return 0;
        }
        return choose(carriesOfOnes, lack / 10 % 10) * choose(carriesOfTens, lack / 100);
    }

    // ---- of kinds

    private int markOfBook(int b) {
        traced += 1;
        return shown(b);
    }

    private int markOfRates(int b) {
        traced += 10;
        return markOfBook(b) + tensOf(shown(b));
    }

    private int markOfTrain(int b) {
        traced += 100;
        return markOfBook(b) - told.sum(b);
    }

    private int markOfLedger(int b) {
        traced += 1000;
        return markOfRates(b) * 2;
    }

    private int markOfShop(int b) {
        traced += 10000;
        return markOfTrain(b) + Integer.bitCount(neighbours(b));
    }

    private int markOfChoir(int b) {
        traced += 100000;
        return markOfBook(b) + now.date;
    }

    // ---- of numbers

    private static boolean within(int value, int least, int most) {
        return value >= least && value <= most;
    }

    private static boolean divides(int by, int value) {
        return by != 0 && value % by == 0;
    }

    private static int tensOf(int value) {
        return value < 0 ? 0 : value / 10 % 10;
    }

    private static int number(int hundreds, int tens, int ones) {
        return 100 * hundreds + 10 * tens + ones;
    }

    private static int power(int base, int exponent) {
        int product = 1;
        for (int i = 0; i < exponent; i++) {
            product *= base;
        }
        return product;
    }

    private static int choose(int of, int taken) {
        if (taken > of) {
            return 0;
        }
        int sets = 1;
        for (int i = 1; i <= taken; i++) {
            sets = sets * (of - i + 1) / i;
        }
        return sets;
    }

    private static int greatestDivisor(int upper, int lower) {
        int greater = lower;
        int lesser = upper;
        for (int i = 0; i < 64 && lesser != 0; i++) {
            int rest = greater % lesser;
            greater = lesser;
            lesser = rest;
        }
        return greater;
    }

    // The next greater number with as many bits.
    private static int nextOfSameSize(int bits) {
        int lowest = Integer.lowestOneBit(bits);
        int carried = bits + lowest;
        return carried | (bits ^ carried) >>> 2 >>> Integer.numberOfTrailingZeros(bits);
    }

    // ---- of touches

    private static int touchBit(int x, int y) {
        int lesser = x < y ? x : y;
        int greater = x < y ? y : x;
        return 1 << lesser * (2 * MOST_BOOKS - 1 - lesser) / 2 + greater - lesser - 1;
    }

    private static int twoOf(int bit) {
        for (int x = 0; x < MOST_BOOKS; x++) {
            for (int y = x + 1; y < MOST_BOOKS; y++) {
                if (touchBit(x, y) == bit) {
                    return 10 * x + y;
                }
            }
        }
        return NONE;
    }

    /** The books as a text tells them. */
    private static final class Books {
        private final int[] a = new int[MOST_BOOKS];
        private final int[] b = new int[MOST_BOOKS];
        private int size;
        private int touches;
        private int one = NONE;

        private void empty() {
            size = 0;
            touches = 0;
            one = NONE;
        }

        private void copyFrom(Books other) {
            for (int i = 0; i < MOST_BOOKS; i++) {
                a[i] = other.a[i];
                b[i] = other.b[i];
            }
            size = other.size;
            touches = other.touches;
            one = other.one;
        }

        private void append(int first, int second) {
            if (size < MOST_BOOKS) {
                a[size] = first;
                b[size] = second;
                size++;
            }
        }

        private int sum(int book) {
            return a[book] + b[book];
        }

        private int carries(int book) {
            int fromOnes = a[book] % 10 + b[book] % 10 >= 10 ? 1 : 0;
            int tens = a[book] / 10 % 10 + b[book] / 10 % 10 + fromOnes;
            return tens >= 10 ? fromOnes | 2 : fromOnes;
        }
    }

    /** The text, and the token of it that was read last. */
    private static final class Text {
        private final int[] bytes = new int[MOST_BYTES];
        private int length;
        private int place;
        private int token;
        private int begin;
        private int value;

        private boolean append(int c) {
            if (length >= MOST_BYTES) {
                return false;
            }
            bytes[length] = c;
            length++;
            return true;
        }

        // How many items; below 0 at a fault, and `begin` is its place then.
        private int readItems(Books into) {
            place = 0;
            for (int items = 0; items <= MOST_BYTES; items++) {
                step();
                if (token == END) {
                    return items;
                }
                if (!readItem(into)) {
                    return NONE;
                }
            }
            return NONE;
        }

        private boolean readItem(Books into) {
            if (token != LETTERS) {
                return false;
            }
            switch (value) {
                case 'b': return readBook(into);
                case 't': return readTouch(into);
                case 'o': return readOne(into);
                default: return false;
            }
        }

        private boolean readBook(Books into) {
            if (into.size >= MOST_BOOKS || !readNumber(MOST_NUMBER)) {
                return false;
            }
            int first = value;
            if (!readNumber(MOST_NUMBER)) {
                return false;
            }
            into.append(first, value);
            return readSemicolon();
        }

        private boolean readTouch(Books into) {
            if (!readNumber(into.size - 1)) {
                return false;
            }
            int first = value;
            if (!readNumber(into.size - 1) || value == first) {
                return false;
            }
            into.touches |= touchBit(first, value);
            return readSemicolon();
        }

        private boolean readOne(Books into) {
            if (into.one != NONE || !readNumber(into.size - 1)) {
                return false;
            }
            into.one = value;
            return readSemicolon();
        }

        private boolean readNumber(int most) {
            step();
            return token == NUMBER && value <= most;
        }

        private boolean readSemicolon() {
            step();
            return token == SEMICOLON;
        }

        private void step() {
            while (place < length && bytes[place] == ' ') {
                place++;
            }
            begin = place;
            int first = place < length ? bytes[place] : NONE;
            if (first == NONE) {
                token = END;
            } else if (within(first, 'a', 'z')) {
                stepOverAll('a', 'z');
                token = LETTERS;
                value = place - begin == 1 ? first : NONE;
            } else if (within(first, '0', '9')) {
                stepOverAll('0', '9');
                token = isNumber(first) ? NUMBER : WRONG;
                value = token == NUMBER ? valueOfFigures() : NONE;
            } else {
                token = first == ';' ? SEMICOLON : WRONG;
                place++;
            }
        }

        private void stepOverAll(int least, int most) {
            while (place < length && bytes[place] >= least && bytes[place] <= most) {
                place++;
            }
        }

        // Four figures without a nought ahead are above 999.
        private boolean isNumber(int firstFigure) {
            int figures = place - begin;
            return figures == 1 || figures <= 3 && firstFigure != '0';
        }

        private int valueOfFigures() {
            int number = 0;
            for (int i = begin; i < place; i++) {
                number = 10 * number + bytes[i] - '0';
            }
            return number;
        }
    }

    /** All that can be undone and that an image keeps: it fits into one long. */
    private static final class Now {
        private int forgotten;
        private int touches;
        private int trapped;
        private int one = NONE;
        private int date;

        private void begin(Books told) {
            forgotten = 0;
            touches = told.touches;
            trapped = 0;
            one = told.one;
            date = 0;
        }

        private int forgottenIn(int book) {
            return forgotten >> 2 * book & 3;
        }

        private boolean isTrap(int book) {
            return (trapped >> book & 1) != 0;
        }

        private long packed() {
            long bits = date;
            bits = bits << 3 | (one < 0 ? 7 : one);
            bits = bits << MOST_BOOKS | trapped;
            bits = bits << MOST_TOUCHES | touches;
            return bits << 2 * MOST_BOOKS | forgotten;
        }

        private void unpack(long packed) {
            long bits = packed;
            forgotten = lowest(bits, 2 * MOST_BOOKS);
            bits >>= 2 * MOST_BOOKS;
            touches = lowest(bits, MOST_TOUCHES);
            bits >>= MOST_TOUCHES;
            trapped = lowest(bits, MOST_BOOKS);
            bits >>= MOST_BOOKS;
            one = lowest(bits, 3);
            date = (int) (bits >> 3);
            if (one == 7) {
                one = NONE;
            }
        }

        private static int lowest(long bits, int size) {
            return (int) (bits & (1L << size) - 1);
        }
    }

    /** What was ahead of the latest steps, the oldest first. */
    private static final class History {
        private final long[] steps = new long[MOST_KNOWN];
        private int known;

        private void append(long packed) {
            if (known >= MOST_KNOWN) {
                System.arraycopy(steps, 1, steps, 0, MOST_KNOWN - 1);
                known = MOST_KNOWN - 1;
            }
            steps[known] = packed;
            known++;
        }

        // Asked only where something is known.
        private long takeLatest() {
            if (known > 0) {
                known--;
            }
            return steps[known];
        }

        private void copyFrom(History other) {
            System.arraycopy(other.steps, 0, steps, 0, MOST_KNOWN);
            known = other.known;
        }
    }

    private static final class Image {
        private final History history = new History();
        private long packed;
        private boolean kept;

        private void fill(Now now, History ofNow) {
            packed = now.packed();
            history.copyFrom(ofNow);
            kept = true;
        }

        private void restore(Now now, History ofNow) {
            now.unpack(packed);
            ofNow.copyFrom(history);
        }
    }

    private static final class Seen {
        private final int[] days = new int[MOST_SEEN];
        private final int[] books = new int[MOST_SEEN];
        private final boolean[] there = new boolean[MOST_SEEN];
        private int size;

        private boolean append(int n, int book, boolean is) {
            if (size >= MOST_SEEN) {
                return false;
            }
            days[size] = n;
            books[size] = book;
            there[size] = is;
            size++;
            return true;
        }
    }

    /** Where THE ONE goes from any book, by touches that may be other than now. */
    private static final class Ways {
        private final int[] ranked = new int[MOST_BOOKS];
        private final int[] tens = new int[MOST_BOOKS];
        private int size;
        private int trapped;

        // Most tens first; books come in their order, so of several the least is first.
        private void rank(int book, int tensOfBook) {
            if (size >= MOST_BOOKS) {
                return;
            }
            int at = size;
            while (at > 0 && tens[at - 1] < tensOfBook) {
                ranked[at] = ranked[at - 1];
                tens[at] = tens[at - 1];
                at--;
            }
            ranked[at] = book;
            tens[at] = tensOfBook;
            size++;
        }

        private int goesTo(int book, int touches) {
            if ((trapped >> book & 1) != 0) {
                return book;
            }
            for (int i = 0; i < size; i++) {
                int other = ranked[i];
                if (other != book && (touches & touchBit(book, other)) != 0) {
                    return other;
                }
            }
            return book;
        }

        private int walk(int start, int days, int touches) {
            int book = start;
            for (int i = 0; i < days; i++) {
                book = goesTo(book, touches);
            }
            return book;
        }

        // In as many days as there are books it has been wherever it ever comes.
        private boolean comesTo(int goal, int start, int touches) {
            int book = start;
            for (int i = 0; i < MOST_BOOKS && book != goal; i++) {
                book = goesTo(book, touches);
            }
            return book == goal;
        }

        private int lengthOfRound(int start, int touches) {
            int inRound = walk(start, MOST_BOOKS, touches);
            int book = goesTo(inRound, touches);
            int length = 1;
            while (book != inRound && length < MOST_BOOKS) {
                book = goesTo(book, touches);
                length++;
            }
            return length;
        }

        private int daysToRound(int start, int length, int touches) {
            int book = start;
            int ahead = walk(start, length, touches);
            int days = 0;
            while (book != ahead && days < MOST_BOOKS) {
                book = goesTo(book, touches);
                ahead = goesTo(ahead, touches);
                days++;
            }
            return days;
        }
    }
}
