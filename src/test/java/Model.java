import java.math.BigInteger;
import java.util.ArrayList;
import java.util.HashMap;
import java.util.List;
import java.util.Map;
import java.util.regex.Matcher;
import java.util.regex.Pattern;

/**
 * The document told a second time, as plainly as can be, without a care for speed or room: every row of
 * villages is made and held against the others, every day is eaten by itself, every state is copied whole.
 */
final class Model {
    private static final int BAD = -1, STATE = -2, FULL = -3, NONE = -9, NO = -1000000;
    private static final Pattern TOKEN = Pattern.compile(" *([a-z]+|[0-9]+|;)", Pattern.DOTALL);

    /** What an image keeps, but for what may be undone. */
    private static final class State {
        int court = NONE;
        int day;
        int basket;
        int hunger;
        List<int[]> villages = new ArrayList<>(); // shown, hidden, tally, coins

        State copy() {
            State s = new State();
            s.court = court;
            s.day = day;
            s.basket = basket;
            s.hunger = hunger;
            for (int[] v : villages) {
                s.villages.add(v.clone());
            }
            return s;
        }
    }

    private static final class Told {
        List<int[]> villages = new ArrayList<>(); // has, need, charter
        List<int[]> roads = new ArrayList<>();
        List<int[]> debts = new ArrayList<>();
        Map<String, Integer> once = new HashMap<>();
        int items;
        int fault = -1;
    }

    private String text = "";
    private Told told = new Told();
    private State state = new State();
    private List<State> past = new ArrayList<>();
    private final State[] images = new State[2];
    private final List<List<State>> imagePasts = new ArrayList<>(List.of(List.of(), List.of()));
    private long trace;

    int type(int c) {
        if (c < 0 || c > 255) {
            return BAD;
        }
        if (text.length() == 180) {
            return FULL;
        }
        text += (char) c;
        return text.length();
    }

    int clear() {
        int n = text.length();
        text = "";
        return n;
    }

    int land() {
        Told t = read(text);
        if (t.fault >= 0) {
            return -10 - t.fault;
        }
        told = t;
        text = "";
        state = new State();
        state.court = t.villages.isEmpty() ? NONE : 0;
        state.basket = t.once.getOrDefault("b", 0);
        for (int[] v : t.villages) {
            state.villages.add(new int[] {v[0], 0, 0, 0});
        }
        past = new ArrayList<>();
        images[0] = null;
        images[1] = null;
        return t.items;
    }

    private static Told read(String s) {
        Told t = new Told();
        List<String> item = new ArrayList<>();
        int place = 0;
        while (s.substring(place).chars().anyMatch(c -> c != ' ')) {
            Matcher m = TOKEN.matcher(s).region(place, s.length());
            int start = place;
            while (start < s.length() && s.charAt(start) == ' ') {
                start++;
            }
            if (!m.lookingAt() || !fits(t, item, m.group(1))) {
                t.fault = start;
                return t;
            }
            place = m.end();
            if (m.group(1).equals(";")) {
                addItem(t, item);
                item = new ArrayList<>();
            } else {
                item.add(m.group(1));
            }
        }
        if (!item.isEmpty()) {
            t.fault = s.length();
        }
        return t;
    }

    private static boolean fits(Told t, List<String> item, String token) {
        if (item.isEmpty()) {
            boolean again = t.once.containsKey(token);
            return token.equals("v") && t.villages.size() < 6 || token.equals("r") && t.roads.size() < 10
                || token.equals("d") || List.of("m", "w", "b").contains(token) && !again;
        }
        String form = item.get(0);
        int due = "vrd".contains(form) ? 3 : 1;
        if (item.size() == due + 1) {
            return token.equals(";");
        }
        if (!token.matches("0|[1-9][0-9]?")) {
            return false;
        }
        int n = Integer.parseInt(token);
        boolean end = item.size() < 3;
        boolean endFits = n < t.villages.size() && !(item.size() == 2 && item.get(1).equals(token));
        switch (form) {
            case "v": return n <= (end ? 60 : 1);
            case "r": return end ? endFits : n >= 1 && n <= 9;
            case "d": return end ? endFits : n >= 1;
            case "m": return n >= 1 && n <= 9;
            case "w": return n <= 10;
            default: return true;
        }
    }

    private static void addItem(Told t, List<String> item) {
        t.items++;
        int[] numbers = new int[item.size() - 1];
        for (int i = 0; i < numbers.length; i++) {
            numbers[i] = Integer.parseInt(item.get(i + 1));
        }
        switch (item.get(0)) {
            case "v": t.villages.add(numbers); break;
            case "r": t.roads.add(numbers); break;
            case "d": t.debts.add(numbers); break;
            default: t.once.put(item.get(0), numbers[0]); break;
        }
    }

    private int mouths() {
        return told.once.getOrDefault("m", 3);
    }

    private int writes() {
        return told.once.getOrDefault("w", 8);
    }

    private boolean no(int v) {
        return v < 0 || v >= told.villages.size();
    }

    private int spare(int v) {
        int[] s = state.villages.get(v);
        int[] t = told.villages.get(v);
        int spare = s[0];
        while (spare > 0 && (s[0] + s[1] - spare < t[1] || t[2] == 1)) {
            spare--;
        }
        return spare;
    }

    int village(int v, int what) {
        if (no(v) || what < 0 || what > 6) {
            return BAD;
        }
        int[] s = state.villages.get(v);
        int[] t = told.villages.get(v);
        return new int[] {s[0], s[1], t[1], t[2], s[2], s[3], spare(v)}[what];
    }

    private int way(int a, int b) {
        int[] days = new int[told.villages.size()];
        java.util.Arrays.fill(days, Integer.MAX_VALUE / 2);
        days[a] = 0;
        for (int times = 0; times < days.length; times++) {
            for (int[] r : told.roads) {
                days[r[0]] = Math.min(days[r[0]], days[r[1]] + r[2]);
                days[r[1]] = Math.min(days[r[1]], days[r[0]] + r[2]);
            }
        }
        return days[b] == Integer.MAX_VALUE / 2 ? NONE : days[b];
    }

    int far(int a, int b) {
        return no(a) || no(b) ? BAD : way(a, b);
    }

    private int debt(int a, int b) {
        int sum = 0;
        for (int[] d : told.debts) {
            sum += d[0] == a && d[1] == b ? d[2] : 0;
        }
        return Math.min(sum, 999);
    }

    int owes(int a, int b) {
        return no(a) || no(b) || a == b ? BAD : debt(a, b);
    }

    private void remember() {
        past.add(state.copy());
        if (past.size() > 10) {
            past.remove(0);
        }
    }

    private void oneDay() {
        state.day++;
        for (int i = 0; i < mouths(); i++) {
            if (state.basket > 0) {
                state.basket--;
            } else if (state.hunger < 9999) {
                state.hunger++;
            }
        }
    }

    int goes(int v) {
        if (no(v)) {
            return BAD;
        }
        int days = way(state.court, v);
        if (v == state.court || days == NONE || state.day + days > 999) {
            return STATE;
        }
        remember();
        for (int i = 0; i < days; i++) {
            oneDay();
        }
        state.court = v;
        return state.day;
    }

    int stays() {
        if (told.villages.isEmpty() || state.day == 999) {
            return STATE;
        }
        remember();
        oneDay();
        return state.day;
    }

    int takes(int n) {
        if (n < 1 || n > 60) {
            return BAD;
        }
        if (told.villages.isEmpty() || told.villages.get(state.court)[2] == 1) {
            return STATE;
        }
        int[] s = state.villages.get(state.court);
        int written = n * writes() / 10;
        if (s[0] < n || state.basket + n > 999 || s[2] + written > 999) {
            return STATE;
        }
        remember();
        s[0] -= n;
        state.basket += n;
        s[2] += written;
        return written;
    }

    int hides(int v, int n) {
        if (no(v) || n < 1 || n > 60) {
            return BAD;
        }
        int[] s = state.villages.get(v);
        if (s[0] < n) {
            return STATE;
        }
        remember();
        s[0] -= n;
        s[1] += n;
        return s[1];
    }

    int shows(int v, int n) {
        if (no(v) || n < 1 || n > 60) {
            return BAD;
        }
        int[] s = state.villages.get(v);
        if (s[1] < n) {
            return STATE;
        }
        remember();
        s[1] -= n;
        s[0] += n;
        return s[0];
    }

    int pays(int v) {
        if (no(v)) {
            return BAD;
        }
        remember();
        int tally = state.villages.get(v)[2];
        state.villages.get(v)[2] = 0;
        return tally;
    }

    int sells(int v, int n) {
        if (no(v) || n < 1 || n > 99) {
            return BAD;
        }
        int[] s = state.villages.get(v);
        if (s[2] < n) {
            return STATE;
        }
        remember();
        s[2] -= n;
        s[3] += n / 3;
        return s[3];
    }

    int undo() {
        if (past.isEmpty()) {
            return STATE;
        }
        state = past.remove(past.size() - 1);
        return past.size();
    }

    int now(int what) {
        int tallies = 0;
        int spare = 0;
        for (int v = 0; v < told.villages.size(); v++) {
            tallies += state.villages.get(v)[2];
            spare += spare(v);
        }
        int[] all = {state.court, state.day, state.basket, state.hunger, state.basket / mouths(), tallies, spare};
        return what < 0 || what > 6 ? BAD : all[what];
    }

    /** All rows of unlike villages, by numbers, a row ahead of those that go on from it. */
    private List<List<Integer>> rows() {
        List<List<Integer>> all = new ArrayList<>();
        addRows(all, new ArrayList<>());
        return all;
    }

    private void addRows(List<List<Integer>> all, List<Integer> row) {
        all.add(new ArrayList<>(row));
        for (int v = 0; v < told.villages.size(); v++) {
            if (!row.contains(v)) {
                row.add(v);
                addRows(all, row);
                row.remove(row.size() - 1);
            }
        }
    }

    /** The days of a row, or NONE, if it is no tour. */
    private int daysOfTour(List<Integer> row, int d) {
        int days = 0;
        int place = state.court;
        int basket = state.basket;
        int all = state.basket;
        for (int v : row) {
            int way = v == place ? 0 : way(place, v);
            if (way == NONE) {
                return NONE;
            }
            for (int day = 0; day < way; day++) {
                if (basket < mouths()) {
                    return NONE;
                }
                basket -= mouths();
            }
            days += way;
            basket += spare(v);
            all += spare(v);
            place = v;
        }
        return all >= mouths() * d ? days : NONE;
    }

    int tour(int d, int i) {
        if (d < 1 || d > 60 || i < -2 || i > 5) {
            return BAD;
        }
        List<Integer> best = null;
        int bestDays = NONE;
        for (List<Integer> row : rows()) {
            int days = daysOfTour(row, d);
            if (days == NONE) {
                continue;
            }
            if (best == null || row.size() < best.size() || row.size() == best.size() && days < bestDays) {
                best = row;
                bestDays = days;
            }
        }
        return best == null ? NONE : partOfRow(best, bestDays, i);
    }

    private static int partOfRow(List<Integer> row, int ofAll, int i) {
        if (i == -2) {
            return ofAll;
        }
        if (i == -1) {
            return row.size();
        }
        return i < row.size() ? row.get(i) : NONE;
    }

    int from(int n) {
        if (n < 0 || n > 360) {
            return BAD;
        }
        for (int villages = 0; villages <= 6; villages++) {
            for (int bits = 0; bits < 1 << told.villages.size(); bits++) {
                if (Integer.bitCount(bits) == villages && spareOf(bits) >= n) {
                    return bits;
                }
            }
        }
        return NONE;
    }

    private int spareOf(int bits) {
        int sum = 0;
        for (int v = 0; v < told.villages.size(); v++) {
            sum += (bits & 1 << v) != 0 ? spare(v) : 0;
        }
        return sum;
    }

    int had(int t, int what) {
        if (t < 0 || t > 60 || what < 0 || what > 1) {
            return BAD;
        }
        List<Integer> all = new ArrayList<>();
        for (int n = 1; n <= 60; n++) {
            if (n * writes() / 10 == t) {
                all.add(n);
            }
        }
        return all.isEmpty() ? NONE : all.get(what == 0 ? 0 : all.size() - 1);
    }

    int odds(int x, int n, int what) {
        if (x < 0 || x > 10 || n < 0 || n > 360 || what < 0 || what > 1) {
            return BAD;
        }
        // Of all 10 to the power of villages ways in which each draws one of ten lots.
        BigInteger upper = BigInteger.ZERO;
        for (int bits = 0; bits < 1 << told.villages.size(); bits++) {
            if (spareOf(bits) >= n) {
                int open = Integer.bitCount(bits);
                upper = upper.add(BigInteger.valueOf(10 - x).pow(open)
                    .multiply(BigInteger.valueOf(x).pow(told.villages.size() - open)));
            }
        }
        return fraction(upper, BigInteger.TEN.pow(told.villages.size()), what);
    }

    private static int fraction(BigInteger upper, BigInteger lower, int what) {
        BigInteger shared = upper.gcd(lower);
        return (what == 0 ? upper : lower).divide(shared).intValue();
    }

    int rests(int h, int c, int f) {
        if (h < 1 || h > 60 || c < 0 || c > 60 || f < 0 || f > 60) {
            return BAD;
        }
        // By bits, as told: not hidden; not hidden, searched; hidden; hidden, searched.
        int[] he = {h, h - c, 0, h - c};
        int[] it = {-h, -h, 0, -h - f};
        int bits = 0;
        for (int two = 0; two < 4; two++) {
            if (he[two] >= he[two ^ 1] && it[two] >= it[two ^ 2]) {
                bits |= 1 << two;
            }
        }
        return bits;
    }

    int mixed(int h, int f, int what) {
        if (h < 1 || h > 60 || f < 0 || f > 60 || what < 0 || what > 1) {
            return BAD;
        }
        return fraction(BigInteger.valueOf(h), BigInteger.valueOf(h + f), what);
    }

    int ring(int i) {
        if (i < -2 || i > 5) {
            return BAD;
        }
        List<Integer> best = null;
        int bestLeast = NONE;
        for (List<Integer> row : rows()) {
            int least = leastOfRing(row);
            if (least > 0 && (best == null || row.size() < best.size())) {
                best = row;
                bestLeast = least;
            }
        }
        return best == null ? NONE : partOfRow(best, bestLeast, i);
    }

    /** 0, if the row is no ring. */
    private int leastOfRing(List<Integer> row) {
        if (row.size() < 2) {
            return 0;
        }
        int least = 999;
        for (int k = 0; k < row.size(); k++) {
            least = Math.min(least, debt(row.get(k), row.get((k + 1) % row.size())));
            if (row.get(k) < row.get(0)) {
                return 0;
            }
        }
        return least;
    }

    int net(int v) {
        if (no(v)) {
            return NO;
        }
        int sum = 0;
        for (int other = 0; other < told.villages.size(); other++) {
            sum += debt(other, v);
            sum -= debt(v, other);
        }
        return sum;
    }

    int mark(int kind, int v) {
        if (kind < 0 || kind > 5 || no(v)) {
            return NO;
        }
        int[] s = state.villages.get(v);
        int need = told.villages.get(v)[1];
        trace += new int[] {1, 11, 101, 1011, 10101, 100001}[kind];
        return new int[] {s[0], s[0] + s[1], s[0] - need, (s[0] + s[1]) * 2, s[0] - need + s[3], s[0] + s[2]}[kind];
    }

    int keep(int image) {
        if (image < 0 || image > 1) {
            return BAD;
        }
        images[image] = state.copy();
        imagePasts.set(image, copies(past));
        return state.day;
    }

    int back(int image) {
        if (image < 0 || image > 1) {
            return BAD;
        }
        if (images[image] == null) {
            return STATE;
        }
        state = images[image].copy();
        past = copies(imagePasts.get(image));
        return state.day;
    }

    private static List<State> copies(List<State> all) {
        List<State> copies = new ArrayList<>();
        for (State s : all) {
            copies.add(s.copy());
        }
        return copies;
    }

    int count(int what) {
        int[] all = {told.villages.size(), told.roads.size(), mouths(), writes(), past.size(), text.length()};
        return what < 0 || what > 5 ? BAD : all[what];
    }

    long trace() {
        return trace;
    }
}
