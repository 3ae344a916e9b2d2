import java.util.ArrayList;
import java.util.List;
import java.util.Random;

/** Long runs of calls, always the same ones, on the class and on the model: their answers are alike. */
public final class ModelTest {
    private static final int RUNS = 3000;
    private static final int MOST_CALLS = 512;
    /** What one step may need: a text of 180 bytes, land, clear; eight parts of a tour. */
    private static final int TO_TELL = 182, TO_ASK = 8;

    private final Random random;
    private final KingPrices x = new KingPrices();
    private final Model model = new Model();
    private final List<String> calls = new ArrayList<>();
    private int villages;
    private boolean differs;

    private ModelTest(long seed) {
        random = new Random(seed);
    }

    public static void main(String[] args) {
        long made = 0;
        int wrong = 0;
        for (int run = 0; run < RUNS && wrong < 5; run++) {
            ModelTest test = new ModelTest(run);
            test.run();
            made += test.calls.size();
            if (test.differs) {
                wrong++;
                System.out.println("run " + run + ": " + String.join(" ", test.calls));
            }
        }
        System.out.println(made + " calls in " + RUNS + " runs, " + wrong + " runs differ from the model");
        if (wrong != 0) {
            System.exit(1);
        }
    }

    private void run() {
        while (!differs && calls.size() + TO_ASK <= MOST_CALLS) {
            boolean mayTell = calls.size() + TO_TELL <= MOST_CALLS;
            if (calls.isEmpty() || mayTell && random.nextInt(150) == 0) {
                tell();
            } else {
                callSomething();
            }
        }
    }

    private void due(String call, long got, long want) {
        calls.add(call + "=" + got);
        if (got != want) {
            differs = true;
            calls.add(", due is " + want);
        }
    }

    private void tell() {
        String text = random.nextInt(12) == 0 ? soup() : landText();
        for (int i = 0; i < text.length() && !differs; i++) {
            char c = text.charAt(i);
            due("type(" + (int) c + ")", x.type(c), model.type(c));
        }
        int got = x.land();
        due("land()", got, model.land());
        if (got < 0 && random.nextInt(3) > 0) {
            due("clear()", x.clear(), model.clear());
        }
        villages = model.count(0);
    }

    /** Mostly without a fault. */
    private String landText() {
        int most = random.nextInt(7);
        boolean faulty = random.nextInt(6) == 0;
        List<String> items = new ArrayList<>();
        for (int v = 0; v < most; v++) {
            int has = random.nextInt(61);
            int need = random.nextInt(3) == 0 ? random.nextInt(61) : random.nextInt(has / 2 + 1);
            items.add("v" + has + " " + need + " " + (random.nextInt(5) == 0 ? 1 : 0));
        }
        int shortest = 1 + random.nextInt(9);
        int roads = most < 2 ? 0 : random.nextInt(10);
        for (int r = 0; r < roads; r++) {
            items.add("r" + pair(most) + " " + (1 + random.nextInt(shortest)));
        }
        int debts = most < 2 ? 0 : random.nextInt(9);
        for (int d = 0; d < debts; d++) {
            items.add("d" + pair(most) + " " + (1 + random.nextInt(99)));
        }
        if (random.nextInt(4) > 0) {
            items.add(random.nextInt(Math.max(1, items.size())), "m" + (1 + random.nextInt(9)));
        }
        if (random.nextInt(3) > 0) {
            items.add(random.nextInt(items.size() + 1), "w" + random.nextInt(11));
        }
        if (random.nextInt(3) > 0) {
            items.add("b" + random.nextInt(100));
        }
        return joined(items, faulty);
    }

    private String joined(List<String> items, boolean faulty) {
        StringBuilder text = new StringBuilder();
        for (String item : items) {
            if (text.length() + item.length() < 179) {
                text.append(item).append(';');
            }
        }
        for (int i = 0; faulty && i < 2 && text.length() > 0; i++) {
            int at = random.nextInt(text.length());
            switch (random.nextInt(4)) {
                case 0: text.deleteCharAt(at); break;
                case 1: text.insert(at, oneOf("0123456789vrdmwb;  ")); break;
                case 2: text.setCharAt(at, oneOf("0123456789vrdmwbaz;! ")); break;
                default: text.setLength(at); break;
            }
        }
        return text.toString();
    }

    private String pair(int most) {
        int a = random.nextInt(most);
        int b = (a + 1 + random.nextInt(most - 1)) % most;
        return a + " " + b;
    }

    private char oneOf(String signs) {
        return signs.charAt(random.nextInt(signs.length()));
    }

    private String soup() {
        StringBuilder text = new StringBuilder();
        int length = random.nextInt(30);
        for (int i = 0; i < length; i++) {
            text.append(oneOf("vvv000111  ;;;mwbrd29"));
        }
        return text.toString();
    }

    /** Mostly from least to most, now and then one beyond, seldom far beyond. */
    private int number(int least, int most) {
        int kind = random.nextInt(40);
        if (kind == 0) {
            return least - 1;
        }
        if (kind == 1) {
            return most + 1;
        }
        if (kind == 2) {
            return random.nextInt();
        }
        return kind < 6 ? (kind % 2 == 0 ? least : most) : least + random.nextInt(most - least + 1);
    }

    private int place() {
        return number(0, Math.max(0, villages - 1));
    }

    private int few() {
        return random.nextInt(4) == 0 ? number(1, 60) : number(1, 12);
    }

    private void callSomething() {
        int kind = random.nextInt(100);
        if (kind < 50) {
            doSomething(random.nextInt(16));
        } else {
            askSomething(random.nextInt(19));
        }
    }

    private void doSomething(int kind) {
        int v = place();
        int n = few();
        int image = number(0, 1);
        switch (kind) {
            case 0: case 1: case 2: due("goes(" + v + ")", x.goes(v), model.goes(v)); break;
            case 3: due("stays()", x.stays(), model.stays()); break;
            case 4: case 5: case 6: due("takes(" + n + ")", x.takes(n), model.takes(n)); break;
            case 7: due("hides(" + v + "," + n + ")", x.hides(v, n), model.hides(v, n)); break;
            case 8: due("shows(" + v + "," + n + ")", x.shows(v, n), model.shows(v, n)); break;
            case 9: due("pays(" + v + ")", x.pays(v), model.pays(v)); break;
            case 10: due("sells(" + v + "," + n + ")", x.sells(v, n), model.sells(v, n)); break;
            case 11: case 12: due("undo()", x.undo(), model.undo()); break;
            case 13: due("keep(" + image + ")", x.keep(image), model.keep(image)); break;
            case 14: due("back(" + image + ")", x.back(image), model.back(image)); break;
            default: due("type(" + n + ")", x.type(n), model.type(n)); due("clear()", x.clear(), model.clear()); break;
        }
    }

    private void askSomething(int kind) {
        int v = place();
        int w = place();
        int what = number(0, 6);
        int d = number(1, 60);
        int i = number(-2, 5);
        switch (kind) {
            case 0: due("village(" + v + "," + what + ")", x.village(v, what), model.village(v, what)); break;
            case 1: due("far(" + v + "," + w + ")", x.far(v, w), model.far(v, w)); break;
            case 2: due("owes(" + v + "," + w + ")", x.owes(v, w), model.owes(v, w)); break;
            case 3: case 4: due("now(" + what + ")", x.now(what), model.now(what)); break;
            case 5: case 6: case 7: tours(random.nextBoolean() ? d : number(1, 30)); break;
            case 8: due("tour(" + d + "," + i + ")", x.tour(d, i), model.tour(d, i)); break;
            case 9: case 10: froms(); break;
            case 11: hads(); break;
            case 12: odds(); break;
            case 13: games(); break;
            case 14: rings(); break;
            case 15: due("net(" + v + ")", x.net(v), model.net(v)); break;
            case 16: marks(v); break;
            case 17: due("ring(" + i + ")", x.ring(i), model.ring(i)); break;
            default: due("count(" + what + ")", x.count(what), model.count(what)); break;
        }
    }

    private void tours(int d) {
        int length = x.tour(d, -1);
        due("tour(" + d + ",-1)", length, model.tour(d, -1));
        due("tour(" + d + ",-2)", x.tour(d, -2), model.tour(d, -2));
        for (int i = 0; i < length; i++) {
            due("tour(" + d + "," + i + ")", x.tour(d, i), model.tour(d, i));
        }
    }

    private void froms() {
        int n = random.nextBoolean() ? number(0, 360) : number(0, 120);
        due("from(" + n + ")", x.from(n), model.from(n));
    }

    private void hads() {
        int t = number(0, 60);
        int what = number(0, 1);
        due("had(" + t + "," + what + ")", x.had(t, what), model.had(t, what));
    }

    private void odds() {
        int in10 = number(0, 10);
        int n = random.nextInt(4) == 0 ? number(0, 360) : number(0, 90);
        int what = number(0, 1);
        due("odds(" + in10 + "," + n + "," + what + ")", x.odds(in10, n, what), model.odds(in10, n, what));
    }

    private void games() {
        int h = number(1, 60);
        int c = random.nextInt(3) == 0 ? h : number(0, 60);
        int f = random.nextInt(3) == 0 ? 0 : number(0, 60);
        int what = number(0, 1);
        due("rests(" + h + "," + c + "," + f + ")", x.rests(h, c, f), model.rests(h, c, f));
        due("mixed(" + h + "," + f + "," + what + ")", x.mixed(h, f, what), model.mixed(h, f, what));
    }

    private void rings() {
        int length = x.ring(-1);
        due("ring(-1)", length, model.ring(-1));
        due("ring(-2)", x.ring(-2), model.ring(-2));
        for (int i = 0; i < length; i++) {
            due("ring(" + i + ")", x.ring(i), model.ring(i));
        }
    }

    private void marks(int v) {
        int kind = number(0, 5);
        due("mark(" + kind + "," + v + ")", x.mark(kind, v), model.mark(kind, v));
        due("trace()", x.trace(), model.trace());
    }
}
