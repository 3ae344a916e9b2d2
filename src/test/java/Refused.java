import java.util.IdentityHashMap;
import java.util.Map;

/**
 * Holds that nothing has changed behind a refused call: not now, not in THE TEXT, not in what may be undone, not in
 * the images. Each look is on an object of its own, so that all looks together stay within its 512 calls.
 */
final class Refused {
    interface Start {
        KingPrices make();
    }

    interface Call {
        long on(KingPrices x);
    }

    private static final int MOST_UNDONE = 10;
    private static final Map<Start, String> UNTOUCHED = new IdentityHashMap<>();

    private Refused() {
    }

    static void call(String name, Start start, Call call, long due) {
        Check.due(name, call.on(start.make()), due);
        String untouched = UNTOUCHED.computeIfAbsent(start, s -> looks(s, x -> 0));
        Check.alike("what is behind " + name, looks(start, call), untouched);
    }

    private static String looks(Start start, Call call) {
        StringBuilder all = new StringBuilder();
        for (int times = 0; times <= MOST_UNDONE; times++) {
            all.append("\n undone ").append(times).append(": ").append(afterUndo(touched(start, call), times));
        }
        for (int image = 0; image < 2; image++) {
            for (int times = 0; times <= MOST_UNDONE; times += MOST_UNDONE / 2) {
                KingPrices x = touched(start, call);
                all.append("\n image ").append(image).append(" of day ").append(x.back(image)).append(": ");
                all.append(afterUndo(x, times));
            }
        }
        KingPrices x = touched(start, call);
        all.append("\n text: ").append(x.land()).append(' ').append(Check.seen(x));
        return all.toString();
    }

    private static KingPrices touched(Start start, Call call) {
        KingPrices x = start.make();
        call.on(x);
        return x;
    }

    private static String afterUndo(KingPrices x, int times) {
        StringBuilder answers = new StringBuilder();
        for (int i = 0; i < times; i++) {
            answers.append(x.undo()).append(' ');
        }
        return answers.append("/ ").append(Check.seen(x)).toString();
    }
}
