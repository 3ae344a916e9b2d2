import java.util.Arrays;

/**
 * At the king's price: a court goes from village to village, and its buyer takes hens at a tally.
 *
 * <p>What a text tells is a Land, what has happened in it since is a Story. Every row is made together
 * with the object and used again, so that no call makes anything.
 */
public final class KingPrices {
    public static final int BAD = -1, STATE = -2, FULL = -3, NONE = -9;
    public static final int NO = -1000000;

    private static final int MOST_VILLAGES = 6, MOST_ROADS = 10, MOST_BYTES = 180;
    private static final int MOST_HENS = 60, MOST_SPARE = 360, MOST_SOLD = 99, MOST_TOUR = 60;
    private static final int MOST_DAY = 999, MOST_BASKET = 999, MOST_TALLY = 999, MOST_HUNGER = 9999, MOST_DEBT = 999;
    private static final int MOST_UNDONE = 10, IMAGES = 2;

    // Where things stand in a moment of a Story; the last four have a place for each village.
    private static final int AT = 0, DAY = 1, BASKET = 2, HUNGER = 3;
    private static final int SHOWN = 4, HIDDEN = 10, TALLY = 16, COINS = 22, MOMENT = 28;

    private static final int VILLAGE = 0, ABBEY = 1, FORD = 2, GRANGE = 3, PORT = 4, TOWN = 5;
    private static final int[] KIND_ABOVE = {VILLAGE, VILLAGE, VILLAGE, ABBEY, FORD, VILLAGE};
    private static final int[] KIND_TRACE = {1, 10, 100, 1000, 10000, 100000};

    private final Text text = new Text();
    private final Story story = new Story();
    private final Story[] images = {new Story(), new Story()};
    private final int[] spares = new int[MOST_VILLAGES];
    private final TourSearch tours = new TourSearch();
    private final RingSearch rings = new RingSearch();
    private Land told = new Land();
    private Land draft = new Land();
    private int imagesKept;
    private long traced;

    public KingPrices() {
        story.begin(told);
    }

    // ---- the land

    public int type(int c) {
        if (!isWithin(c, 0, 255)) {
            return BAD;
        }
        return text.append(c) ? text.size : FULL;
    }

    public int clear() {
        int had = text.size;
        text.size = 0;
        return had;
    }

    public int land() {
        int items = draft.readAll(text);
        if (items < 0) {
            return items;
        }
        Land old = told;
        told = draft;
        draft = old;
        text.size = 0;
        story.begin(told);
        imagesKept = 0;
        return items;
    }

    public int village(int v, int what) {
        if (!told.knows(v)) {
            return BAD;
        }
        switch (what) {
            case 0: return story.get(SHOWN + v);
            case 1: return story.get(HIDDEN + v);
            case 2: return told.needOf(v);
            case 3: return told.hasCharter(v) ? 1 : 0;
            case 4: return story.get(TALLY + v);
            case 5: return story.get(COINS + v);
            case 6: return spareOf(v);
            default: return BAD;
        }
    }

    public int far(int a, int b) {
        if (!told.knows(a) || !told.knows(b)) {
            return BAD;
        }
        return told.daysBetween(a, b);
    }

    public int owes(int a, int b) {
        if (!told.knows(a) || !told.knows(b) || a == b) {
            return BAD;
        }
        return told.debt(a, b);
    }

    // ---- what is done

    public int goes(int v) {
        if (!told.knows(v)) {
            return BAD;
        }
        int days = told.daysBetween(story.get(AT), v);
        if (days == NONE || days == 0 || story.get(DAY) + days > MOST_DAY) {
            return STATE;
        }
        story.remember();
        story.letDaysPass(days, told.mouths);
        story.put(AT, v);
        return story.get(DAY);
    }

    public int stays() {
        if (told.villages == 0 || story.get(DAY) >= MOST_DAY) {
            return STATE;
        }
        story.remember();
        story.letDaysPass(1, told.mouths);
        return story.get(DAY);
    }

    public int takes(int n) {
        if (!isWithin(n, 1, MOST_HENS)) {
            return BAD;
        }
        int v = story.get(AT);
        int written = told.writtenFor(n);
        if (!told.knows(v) || told.hasCharter(v) || story.get(SHOWN + v) < n) {
            return STATE;
        }
        if (story.get(BASKET) + n > MOST_BASKET || story.get(TALLY + v) + written > MOST_TALLY) {
            return STATE;
        }
        story.remember();
        story.add(SHOWN + v, -n);
        story.add(BASKET, n);
        story.add(TALLY + v, written);
        return written;
    }

    public int hides(int v, int n) {
        return moveHens(v, n, SHOWN, HIDDEN);
    }

    public int shows(int v, int n) {
        return moveHens(v, n, HIDDEN, SHOWN);
    }

    public int pays(int v) {
        if (!told.knows(v)) {
            return BAD;
        }
        int paid = story.get(TALLY + v);
        story.remember();
        story.put(TALLY + v, 0);
        return paid;
    }

    public int sells(int v, int n) {
        if (!told.knows(v) || !isWithin(n, 1, MOST_SOLD)) {
            return BAD;
        }
        if (story.get(TALLY + v) < n) {
            return STATE;
        }
        story.remember();
        story.add(TALLY + v, -n);
        story.add(COINS + v, n / 3);
        return story.get(COINS + v);
    }

    public int undo() {
        return story.goBack() ? story.known : STATE;
    }

    public int now(int what) {
        switch (what) {
            case 0: return story.get(AT);
            case 1: return story.get(DAY);
            case 2: return story.get(BASKET);
            case 3: return story.get(HUNGER);
            case 4: return told.mouths < 1 ? 0 : story.get(BASKET) / told.mouths;
            case 5: return allTallies();
            case 6: return allSpare();
            default: return BAD;
        }
    }

    // ---- tours, hens

    public int tour(int d, int i) {
        if (!isWithin(d, 1, MOST_TOUR) || !isWithin(i, -2, MOST_VILLAGES - 1)) {
            return BAD;
        }
        fillSpares();
        int basket = story.get(BASKET);
        int goal = told.mouths * d;
        // No row can be shorter than the fewest villages that have enough, whatever the way.
        int enough = fewestWith(goal - basket);
        if (enough == NONE) {
            return NONE;
        }
        if (!tours.find(told, spares, Integer.bitCount(enough), story.get(AT), basket, goal)) {
            return NONE;
        }
        if (i == -2) {
            return tours.bestDays;
        }
        return i == -1 ? tours.length : tours.at(i);
    }

    public int from(int n) {
        if (!isWithin(n, 0, MOST_SPARE)) {
            return BAD;
        }
        fillSpares();
        return fewestWith(n);
    }

    public int had(int t, int what) {
        if (!isWithin(t, 0, MOST_HENS) || !isWithin(what, 0, 1)) {
            return BAD;
        }
        int found = NONE;
        for (int n = 1; n <= MOST_HENS; n++) {
            if (told.writtenFor(n) == t && (what == 1 || found == NONE)) {
                found = n;
            }
        }
        return found;
    }

    public int odds(int x, int n, int what) {
        if (!isWithin(x, 0, 10) || !isWithin(n, 0, MOST_SPARE) || !isWithin(what, 0, 1)) {
            return BAD;
        }
        fillSpares();
        int upper = 0;
        int lower = 1;
        for (int v = 0; v < told.villages; v++) {
            lower *= 10;
        }
        for (int open = 0; open < 1 << told.villages; open++) {
            if (spareTogether(open) >= n) {
                upper += chanceOf(open, x);
            }
        }
        return partOfFraction(upper, lower, what);
    }

    // ---- games, rings

    public int rests(int h, int c, int f) {
        if (!isWithin(h, 1, MOST_HENS) || !isWithin(c, 0, MOST_HENS) || !isWithin(f, 0, MOST_HENS)) {
            return BAD;
        }
        int bits = 0;
        for (int two = 0; two < 4; two++) {
            boolean hidden = (two & 2) != 0;
            boolean searched = (two & 1) != 0;
            boolean villageRests = villageHas(hidden, searched, h, f) >= villageHas(!hidden, searched, h, f);
            boolean buyerRests = buyerHas(hidden, searched, h, c) >= buyerHas(hidden, !searched, h, c);
            if (villageRests && buyerRests) {
                bits |= 1 << two;
            }
        }
        return bits;
    }

    public int mixed(int h, int f, int what) {
        if (!isWithin(h, 1, MOST_HENS) || !isWithin(f, 0, MOST_HENS) || !isWithin(what, 0, 1)) {
            return BAD;
        }
        return partOfFraction(h, h + f, what);
    }

    public int ring(int i) {
        if (!isWithin(i, -2, MOST_VILLAGES - 1)) {
            return BAD;
        }
        if (!rings.find(told)) {
            return NONE;
        }
        if (i == -2) {
            return rings.leastDebt(told);
        }
        return i == -1 ? rings.length : rings.at(i);
    }

    public int net(int v) {
        if (!told.knows(v)) {
            return NO;
        }
        int sum = 0;
        for (int other = 0; other < told.villages; other++) {
            sum += told.debt(other, v) - told.debt(v, other);
        }
        return sum;
    }

    // ---- kinds, images

    public int mark(int kind, int v) {
        if (!isWithin(kind, VILLAGE, TOWN) || !told.knows(v)) {
            return NO;
        }
        return askKind(kind, v, 0);
    }

    public int keep(int image) {
        if (!isWithin(image, 0, IMAGES - 1)) {
            return BAD;
        }
        images[image].copyFrom(story);
        imagesKept |= 1 << image;
        return story.get(DAY);
    }

    public int back(int image) {
        if (!isWithin(image, 0, IMAGES - 1)) {
            return BAD;
        }
        if ((imagesKept >> image & 1) == 0) {
            return STATE;
        }
        story.copyFrom(images[image]);
        return story.get(DAY);
    }

    public int count(int what) {
        switch (what) {
            case 0: return told.villages;
            case 1: return told.roads;
            case 2: return told.mouths;
            case 3: return told.writes;
            case 4: return story.known;
            case 5: return text.size;
            default: return BAD;
        }
    }

    public long trace() {
        return traced;
    }

    // ---- what the calls share

    private static boolean isWithin(int n, int least, int most) {
        return least <= n && n <= most;
    }

    private int moveHens(int v, int n, int out, int in) {
        if (!told.knows(v) || !isWithin(n, 1, MOST_HENS)) {
            return BAD;
        }
        if (story.get(out + v) < n) {
            return STATE;
        }
        story.remember();
        story.add(out + v, -n);
        story.add(in + v, n);
        return story.get(in + v);
    }

    private int spareOf(int v) {
        if (told.hasCharter(v)) {
            return 0;
        }
        int shown = story.get(SHOWN + v);
        int aboveNeed = shown + story.get(HIDDEN + v) - told.needOf(v);
        return Math.max(0, Math.min(shown, aboveNeed));
    }

    private void fillSpares() {
        for (int v = 0; v < MOST_VILLAGES; v++) {
            spares[v] = v < told.villages ? spareOf(v) : 0;
        }
    }

    private int allSpare() {
        int sum = 0;
        for (int v = 0; v < told.villages; v++) {
            sum += spareOf(v);
        }
        return sum;
    }

    private int allTallies() {
        int sum = 0;
        for (int v = 0; v < told.villages; v++) {
            sum += story.get(TALLY + v);
        }
        return sum;
    }

    /** The villages are bits; fillSpares() comes ahead of it. */
    private int spareTogether(int bits) {
        int sum = 0;
        for (int v = 0; v < MOST_VILLAGES; v++) {
            if ((bits >> v & 1) != 0) {
                sum += spares[v];
            }
        }
        return sum;
    }

    /** As bits; fillSpares() comes ahead of it. */
    private int fewestWith(int n) {
        int best = NONE;
        for (int bits = 0; bits < 1 << told.villages; bits++) {
            boolean fewer = best == NONE || Integer.bitCount(bits) < Integer.bitCount(best);
            if (fewer && spareTogether(bits) >= n) {
                best = bits;
            }
        }
        return best;
    }

    /** How often of 10 to the villages' number just the open ones hide nothing, by x in 10. */
    private int chanceOf(int open, int x) {
        int chance = 1;
        for (int v = 0; v < told.villages; v++) {
            chance *= (open >> v & 1) != 0 ? 10 - x : x;
        }
        return chance;
    }

    private static int partOfFraction(int upper, int lower, int what) {
        int shared = greatestDivisor(upper, lower);
        if (shared < 1) {
            return 0;
        }
        return (what == 0 ? upper : lower) / shared;
    }

    private static int greatestDivisor(int a, int b) {
        int greater = a;
        int lesser = b;
        for (int step = 0; step < 64 && lesser != 0; step++) {
            int rest = greater % lesser;
            greater = lesser;
            lesser = rest;
        }
        return greater;
    }

    private static int villageHas(boolean hidden, boolean searched, int h, int f) {
        if (!hidden) {
            return -h;
        }
        return searched ? -(h + f) : 0;
    }

    private static int buyerHas(boolean hidden, boolean searched, int h, int c) {
        int hens = hidden && !searched ? 0 : h;
        return searched ? hens - c : hens;
    }

    private int askKind(int kind, int v, int depth) {
        if (!isWithin(kind, VILLAGE, TOWN) || depth > TOWN) {
            return 0;
        }
        traced += KIND_TRACE[kind];
        if (kind == VILLAGE) {
            return story.get(SHOWN + v);
        }
        int up = askKind(KIND_ABOVE[kind], v, depth + 1);
        switch (kind) {
            case ABBEY: return up + story.get(HIDDEN + v);
            case FORD: return up - told.needOf(v);
            case GRANGE: return up * 2;
            case PORT: return up + story.get(COINS + v);
            default: return up + story.get(TALLY + v);
        }
    }

    /** THE TEXT, and the token of it at which a reader is. */
    private static final class Text {
        static final int END = 0, LETTERS = 1, NUMBER = 2, STOP = 3, WRONG = 4;

        private final int[] bytes = new int[MOST_BYTES];
        private int size;
        private int place;
        private int start;
        private int token;
        private int value;

        boolean append(int c) {
            if (size < 0 || size >= bytes.length) {
                return false;
            }
            bytes[size] = c;
            size++;
            return true;
        }

        void toFirstToken() {
            place = 0;
            toNextToken();
        }

        void toNextToken() {
            while (place < size && byteAt(place) == ' ') {
                place++;
            }
            start = place;
            value = 0;
            int c = byteAt(place);
            if (place >= size) {
                token = END;
            } else if (isWithin(c, 'a', 'z')) {
                readLetters();
            } else if (isWithin(c, '0', '9')) {
                readNumber();
            } else {
                token = c == ';' ? STOP : WRONG;
                place++;
            }
        }

        /** Only one letter alone has a value: several begin no item. */
        private void readLetters() {
            while (place < size && isWithin(byteAt(place), 'a', 'z')) {
                place++;
            }
            token = LETTERS;
            value = place - start == 1 ? byteAt(start) : 0;
        }

        private void readNumber() {
            while (place < size && isWithin(byteAt(place), '0', '9')) {
                // Held at 100, so that a long row of digits can't wrap around to a fair number.
                value = Math.min(100, value * 10 + byteAt(place) - '0');
                place++;
            }
            boolean zeroAhead = place - start > 1 && byteAt(start) == '0';
            token = value > 99 || zeroAhead ? WRONG : NUMBER;
        }

        private int byteAt(int i) {
            return 0 <= i && i < bytes.length ? bytes[i] : 0;
        }
    }

    /** All that a text tells. */
    private static final class Land {
        private static final int NO_WAY = 1000;

        private final int[] hens = new int[MOST_VILLAGES];
        private final int[] needs = new int[MOST_VILLAGES];
        private final int[] charters = new int[MOST_VILLAGES];
        private final int[] ways = new int[MOST_VILLAGES * MOST_VILLAGES];
        private final int[] debts = new int[MOST_VILLAGES * MOST_VILLAGES];
        private final int[] numbers = new int[3];
        private int villages;
        private int roads;
        private int mouths;
        private int writes;
        private int basket;
        private int toldOnce;

        Land() {
            empty();
        }

        private void empty() {
            villages = 0;
            roads = 0;
            mouths = 3;
            writes = 8;
            basket = 0;
            toldOnce = 0;
            Arrays.fill(debts, 0);
            Arrays.fill(ways, NO_WAY);
            for (int v = 0; v < MOST_VILLAGES; v++) {
                ways[v * MOST_VILLAGES + v] = 0;
            }
        }

        boolean knows(int v) {
            return 0 <= v && v < villages && v < MOST_VILLAGES;
        }

        int hensOf(int v) {
            return knows(v) ? hens[v] : 0;
        }

        int needOf(int v) {
            return knows(v) ? needs[v] : 0;
        }

        boolean hasCharter(int v) {
            return knows(v) && charters[v] == 1;
        }

        int debt(int a, int b) {
            return knows(a) && knows(b) ? debts[a * MOST_VILLAGES + b] : 0;
        }

        int daysBetween(int a, int b) {
            if (!knows(a) || !knows(b)) {
                return NONE;
            }
            int days = ways[a * MOST_VILLAGES + b];
            return days >= NO_WAY ? NONE : days;
        }

        int writtenFor(int taken) {
            return writes * taken / 10;
        }

        /** How many items, or -10 less the place of the fault. */
        int readAll(Text text) {
            empty();
            text.toFirstToken();
            int items = 0;
            while (items < MOST_BYTES && text.token != Text.END) {
                if (!readItem(text)) {
                    return -10 - text.start;
                }
                items++;
            }
            findShortestWays();
            return items;
        }

        /** False, if the token at which the text is then can't stand there. */
        private boolean readItem(Text text) {
            int letter = text.value;
            if (text.token != Text.LETTERS || !mayBegin(letter)) {
                return false;
            }
            text.toNextToken();
            int due = isToldOnce(letter) ? 1 : 3;
            for (int i = 0; i < due && i < numbers.length; i++) {
                if (text.token != Text.NUMBER || !mayBeTold(letter, i, text.value)) {
                    return false;
                }
                numbers[i] = text.value;
                text.toNextToken();
            }
            if (text.token != Text.STOP) {
                return false;
            }
            text.toNextToken();
            takeItem(letter);
            return true;
        }

        private static boolean isToldOnce(int letter) {
            return letter == 'm' || letter == 'w' || letter == 'b';
        }

        private boolean mayBegin(int letter) {
            switch (letter) {
                case 'v': return villages < MOST_VILLAGES;
                case 'r': return roads < MOST_ROADS;
                case 'd': return true;
                default: return isToldOnce(letter) && (toldOnce & bitOf(letter)) == 0;
            }
        }

        private static int bitOf(int letter) {
            return 1 << letter - 'a';
        }

        /** May n be the i-th number behind this letter? */
        private boolean mayBeTold(int letter, int i, int n) {
            switch (letter) {
                case 'v': return n <= (i < 2 ? MOST_HENS : 1);
                case 'r': return i < 2 ? mayBeEnd(i, n) : isWithin(n, 1, 9);
                case 'd': return i < 2 ? mayBeEnd(i, n) : isWithin(n, 1, 99);
                case 'm': return isWithin(n, 1, 9);
                case 'w': return n <= 10;
                default: return n <= 99;
            }
        }

        private boolean mayBeEnd(int i, int v) {
            return knows(v) && (i == 0 || v != numbers[0]);
        }

        private void takeItem(int letter) {
            switch (letter) {
                case 'v': takeVillage(); break;
                case 'r': takeRoad(); break;
                case 'd': takeDebt(); break;
                case 'm': mouths = numbers[0]; break;
                case 'w': writes = numbers[0]; break;
                default: basket = numbers[0]; break;
            }
            if (isToldOnce(letter)) {
                toldOnce |= bitOf(letter);
            }
        }

        private void takeVillage() {
            int v = villages;
            if (0 <= v && v < MOST_VILLAGES) {
                hens[v] = numbers[0];
                needs[v] = numbers[1];
                charters[v] = numbers[2];
                villages++;
            }
        }

        private void takeRoad() {
            int a = numbers[0];
            int b = numbers[1];
            if (knows(a) && knows(b)) {
                shortenWay(a, b, numbers[2]);
                shortenWay(b, a, numbers[2]);
                roads++;
            }
        }

        private void takeDebt() {
            int a = numbers[0];
            int b = numbers[1];
            if (knows(a) && knows(b)) {
                debts[a * MOST_VILLAGES + b] = Math.min(MOST_DEBT, debt(a, b) + numbers[2]);
            }
        }

        private void shortenWay(int a, int b, int days) {
            if (knows(a) && knows(b)) {
                int i = a * MOST_VILLAGES + b;
                ways[i] = Math.min(ways[i], days);
            }
        }

        private void findShortestWays() {
            for (int over = 0; over < villages; over++) {
                for (int a = 0; a < villages; a++) {
                    for (int b = 0; b < villages; b++) {
                        int first = daysBetween(a, over);
                        int second = daysBetween(over, b);
                        if (first != NONE && second != NONE) {
                            shortenWay(a, b, first + second);
                        }
                    }
                }
            }
        }
    }

    /** The moment that is now, and behind it in one row, latest first, those that may come back. */
    private static final class Story {
        private final int[] row = new int[MOMENT * (MOST_UNDONE + 1)];
        private int known;

        void begin(Land land) {
            Arrays.fill(row, 0);
            known = 0;
            put(AT, land.villages > 0 ? 0 : NONE);
            put(BASKET, land.basket);
            for (int v = 0; v < land.villages; v++) {
                put(SHOWN + v, land.hensOf(v));
            }
        }

        int get(int i) {
            return 0 <= i && i < MOMENT ? row[i] : 0;
        }

        void put(int i, int n) {
            if (0 <= i && i < MOMENT) {
                row[i] = n;
            }
        }

        void add(int i, int n) {
            put(i, get(i) + n);
        }

        void letDaysPass(int days, int mouths) {
            int due = days * mouths;
            int eaten = Math.min(due, get(BASKET));
            add(DAY, days);
            add(BASKET, -eaten);
            put(HUNGER, Math.min(MOST_HUNGER, get(HUNGER) + due - eaten));
        }

        /** Comes ahead of whatever may be undone. */
        void remember() {
            System.arraycopy(row, 0, row, MOMENT, MOMENT * MOST_UNDONE);
            known = Math.min(MOST_UNDONE, known + 1);
        }

        boolean goBack() {
            if (known < 1) {
                return false;
            }
            System.arraycopy(row, MOMENT, row, 0, MOMENT * MOST_UNDONE);
            known--;
            return true;
        }

        void copyFrom(Story other) {
            System.arraycopy(other.row, 0, row, 0, row.length);
            known = other.known;
        }
    }

    /** Looks for the best row of villages to go to. */
    private static final class TourSearch {
        private final int[] spares = new int[MOST_VILLAGES];
        private final int[] row = new int[MOST_VILLAGES];
        private final int[] best = new int[MOST_VILLAGES];
        private int length;
        private int goal;
        private int greatestSpare;
        private int bestDays;

        /** No row shorter than the least length is tried. */
        boolean find(Land land, int[] offered, int least, int court, int basket, int due) {
            greatestSpare = 0;
            for (int v = 0; v < spares.length; v++) {
                spares[v] = v < offered.length ? offered[v] : 0;
                greatestSpare = Math.max(greatestSpare, spares[v]);
            }
            goal = due;
            bestDays = NONE;
            for (int villages = least; villages <= land.villages; villages++) {
                length = villages;
                goOn(land, 0, 0, court, basket, 0);
                if (bestDays != NONE) {
                    return true;
                }
            }
            return false;
        }

        int at(int i) {
            return 0 <= i && i < length && i < best.length ? best[i] : NONE;
        }

        /** Rows are tried by numbers, so that of rows as good the first is kept; gone is bits. */
        private void goOn(Land land, int depth, int gone, int place, int basket, int days) {
            // What was eaten on the way was in the basket or taken, too.
            int had = basket + land.mouths * days;
            if (had + (length - depth) * greatestSpare < goal) {
                return;
            }
            if (depth >= length || depth >= row.length) {
                System.arraycopy(row, 0, best, 0, row.length);
                bestDays = days;
                return;
            }
            for (int v = 0; v < land.villages && v < spares.length; v++) {
                int way = land.daysBetween(place, v);
                if (way != NONE && (gone >> v & 1) == 0 && isWorthGoing(land, v, way, basket, days)) {
                    row[depth] = v;
                    int left = basket - land.mouths * way + spares[v];
                    goOn(land, depth + 1, gone | 1 << v, v, left, days + way);
                }
            }
        }

        /** A village without spare only makes a row longer: the way past it is no farther. */
        private boolean isWorthGoing(Land land, int v, int way, int basket, int days) {
            boolean sooner = bestDays == NONE || days + way < bestDays;
            return sooner && 0 <= v && v < spares.length && spares[v] > 0 && basket >= land.mouths * way;
        }
    }

    /** Looks for the first of the shortest rings of villages that owe the next one. */
    private static final class RingSearch {
        private final int[] row = new int[MOST_VILLAGES];
        private int length;

        boolean find(Land land) {
            for (int villages = 2; villages <= land.villages; villages++) {
                length = villages;
                for (int first = 0; first < land.villages; first++) {
                    row[0] = first;
                    if (goOn(land, 1, 1 << first)) {
                        return true;
                    }
                }
            }
            return false;
        }

        int at(int i) {
            return 0 <= i && i < length && i < row.length ? row[i] : NONE;
        }

        int leastDebt(Land land) {
            int least = MOST_DEBT;
            for (int i = 0; i < length; i++) {
                int next = i + 1 < length ? i + 1 : 0;
                least = Math.min(least, land.debt(at(i), at(next)));
            }
            return least;
        }

        /** Only villages above the first may follow it: a ring is begun by its lowest. */
        private boolean goOn(Land land, int depth, int gone) {
            if (depth < 1 || depth > length || depth > row.length) {
                return false;
            }
            int last = row[depth - 1];
            if (depth == length || depth == row.length) {
                return land.debt(last, row[0]) > 0;
            }
            for (int v = row[0] + 1; v < land.villages; v++) {
                if ((gone >> v & 1) == 0 && land.debt(last, v) > 0) {
                    row[depth] = v;
                    if (goOn(land, depth + 1, gone | 1 << v)) {
                        return true;
                    }
                }
            }
            return false;
        }
    }
}
