import java.math.BigInteger;

/** Promises 21 to 24: games and rings. */
public final class GamesTest {
    private static final int BAD = KingPrices.BAD, NONE = KingPrices.NONE, NO = KingPrices.NO;
    private static final int LEAST = Integer.MIN_VALUE, MOST = Integer.MAX_VALUE;
    private static final String SIX = "v0 0 0;v0 0 0;v0 0 0;v0 0 0;v0 0 0;v0 0 0;";

    public static void main(String[] args) {
        promise21Rests();
        promise22Mixed();
        promise23Ring();
        promise23RingsThatAreAlike();
        promise24Net();
        Check.end();
    }

    private static void promise21Rests() {
        for (int h = 1; h <= 60; h++) {
            for (int c = 0; c <= 60; c++) {
                KingPrices x = new KingPrices();
                for (int f = 0; f <= 60; f++) {
                    // Not hidden, not searched never rests: it has more by hiding.
                    int want = (c == 0 ? 2 : 0) + (c >= h ? 4 : 0) + (c <= h && f == 0 ? 8 : 0);
                    Check.due("rests(" + h + ", " + c + ", " + f + ")", x.rests(h, c, f), want);
                }
            }
        }
        KingPrices x = new KingPrices();
        int[][] bad = {{0, 0, 0}, {61, 0, 0}, {1, -1, 0}, {1, 61, 0}, {1, 0, -1}, {1, 0, 61},
            {LEAST, 0, 0}, {MOST, 0, 0}, {1, LEAST, 0}, {1, MOST, 0}, {1, 0, LEAST}, {1, 0, MOST}};
        for (int[] b : bad) {
            Check.due("rests(" + b[0] + ", " + b[1] + ", " + b[2] + ")", x.rests(b[0], b[1], b[2]), BAD);
        }
    }

    private static void promise22Mixed() {
        for (int h = 1; h <= 60; h++) {
            KingPrices x = new KingPrices();
            for (int f = 0; f <= 60; f++) {
                int shared = BigInteger.valueOf(h).gcd(BigInteger.valueOf(h + f)).intValue();
                Check.due("mixed(" + h + ", " + f + ", 0)", x.mixed(h, f, 0), h / shared);
                Check.due("mixed(" + h + ", " + f + ", 1)", x.mixed(h, f, 1), (h + f) / shared);
            }
        }
        KingPrices x = new KingPrices();
        Check.due("mixed(60, 0, 1)", x.mixed(60, 0, 1), 1);
        Check.due("mixed(60, 60, 1)", x.mixed(60, 60, 1), 2);
        int[][] bad = {{0, 0, 0}, {61, 0, 0}, {1, -1, 0}, {1, 61, 0}, {1, 0, -1}, {1, 0, 2},
            {LEAST, 0, 0}, {MOST, 0, 0}, {1, LEAST, 0}, {1, MOST, 0}, {1, 0, LEAST}, {1, 0, MOST}};
        for (int[] b : bad) {
            Check.due("mixed(" + b[0] + ", " + b[1] + ", " + b[2] + ")", x.mixed(b[0], b[1], b[2]), BAD);
        }
    }

    /** What is due: what can be cancelled, then the villages; NONE alone, if there is no ring. */
    private static void ring(String debts, int... want) {
        KingPrices x = Check.told(SIX + debts);
        Check.due(debts + " ring(-2)", x.ring(-2), want[0]);
        Check.due(debts + " ring(-1)", x.ring(-1), want[0] == NONE ? NONE : want.length - 1);
        for (int i = 0; i < 6; i++) {
            Check.due(debts + " ring(" + i + ")", x.ring(i), i + 1 < want.length ? want[i + 1] : NONE);
        }
    }

    private static void promise23Ring() {
        ring("", NONE);
        ring("d0 1 5;", NONE);
        ring("d0 1 5;d1 2 5;d0 2 5;d2 5 1;d0 5 9;", NONE);
        ring("d0 1 5;d1 0 7;", 5, 0, 1);
        ring("d5 4 9;d4 5 7;", 7, 4, 5);
        ring("d2 1 9;d1 3 8;d3 2 7;", 7, 1, 3, 2);
        ring("d0 1 9;d1 2 9;d2 3 9;d3 4 9;d4 5 9;d5 0 1;", 1, 0, 1, 2, 3, 4, 5);
        ring("d0 5 9;d5 4 9;d4 3 2;d3 2 9;d2 1 9;d1 0 9;", 2, 0, 5, 4, 3, 2, 1);
        ring("d0 1 9;d1 2 9;d2 0 9;d4 5 1;d5 4 2;", 1, 4, 5);
        ring("d1 2 9;d2 3 9;d3 4 9;d4 1 9;d0 1 9;d5 0 9;", 9, 1, 2, 3, 4);
        ring("d0 1 99;".repeat(11) + "d1 0 99;", 99, 0, 1);
        Check.due("new: ring(-2)", new KingPrices().ring(-2), NONE);
        Check.due("new: ring(-1)", new KingPrices().ring(-1), NONE);
        Check.due("new: ring(5)", new KingPrices().ring(5), NONE);
        for (int i : new int[] {-3, 6, LEAST, MOST}) {
            Check.due("ring(" + i + ")", Check.told(SIX).ring(i), BAD);
            Check.due("new: ring(" + i + ")", new KingPrices().ring(i), BAD);
        }
    }

    private static void promise23RingsThatAreAlike() {
        ring("d1 4 9;d4 1 9;d0 5 3;d5 0 4;d2 3 1;d3 2 1;", 3, 0, 5);
        ring("d0 2 9;d2 3 9;d3 0 9;d0 1 9;d1 5 9;d5 0 9;", 9, 0, 1, 5);
        ring("d0 4 9;d4 1 9;d1 0 9;d0 3 9;d3 5 8;d5 0 9;", 8, 0, 3, 5);
        ring("d0 1 9;d1 3 9;d3 0 9;d1 2 9;d2 0 2;", 2, 0, 1, 2);
    }

    private static void promise24Net() {
        KingPrices x = Check.told("v0 0 0;v0 0 0;v0 0 0;d0 1 20;d2 1 9;d1 0 4;d0 1 1;");
        int[] want = {-17, 26, -9};
        for (int v = 0; v < 3; v++) {
            Check.due("net(" + v + ")", x.net(v), want[v]);
        }
        for (int v : new int[] {-1, 3, 6, LEAST, MOST}) {
            Check.due("net(" + v + ")", x.net(v), NO);
        }
        KingPrices most = Check.told("v0 0 0;v0 0 0;" + "d0 1 99;".repeat(11));
        Check.due("net, the least", most.net(0), -999);
        Check.due("net, the most", most.net(1), 999);
    }
}
