import java.lang.reflect.Field;
import java.lang.reflect.Method;

/**
 * Puts a number where no run of calls can bring it (a BASKET above 454, a TALLY above 60, a HUNGER above 8991), so
 * that the limits the document sets there can be seen from both sides. It knows how the class is built: when Story
 * or its places are changed, this changes with them.
 */
final class Inside {
    private Inside() {
    }

    static void basket(KingPrices x, int n) {
        put(x, place("BASKET"), n);
    }

    static void hunger(KingPrices x, int n) {
        put(x, place("HUNGER"), n);
    }

    static void tally(KingPrices x, int v, int n) {
        put(x, place("TALLY") + v, n);
    }

    private static int place(String name) {
        try {
            Field place = KingPrices.class.getDeclaredField(name);
            place.setAccessible(true);
            return place.getInt(null);
        } catch (ReflectiveOperationException e) {
            throw new IllegalStateException(e);
        }
    }

    private static void put(KingPrices x, int place, int n) {
        try {
            Field story = KingPrices.class.getDeclaredField("story");
            story.setAccessible(true);
            Object held = story.get(x);
            Method put = held.getClass().getDeclaredMethod("put", int.class, int.class);
            put.setAccessible(true);
            put.invoke(held, place, n);
        } catch (ReflectiveOperationException e) {
            throw new IllegalStateException(e);
        }
    }
}
