/** Promises 17 to 20: tours, from which to take, what there was, the odds of hiding. */
public final class ToursTest {
    private static final int BAD = KingPrices.BAD, NONE = KingPrices.NONE;
    private static final int LEAST = Integer.MIN_VALUE, MOST = Integer.MAX_VALUE;
    private static final String SIX = "v60 0 0;v60 0 0;v60 0 0;v60 0 0;v60 0 0;v60 0 0;";
    private static final String FOUR = "v10 4 0;v20 0 0;v50 0 1;v9 0 0;";

    public static void main(String[] args) {
        promise17Tour();
        promise17FewestVillagesThenDaysThenNumbers();
        promise17NeverLacks();
        promise17FromWhereItIs();
        promise17WhatWasEatenCounts();
        promise17SixVillages();
        promise17Bad();
        promise18From();
        promise19Had();
        promise20Odds();
        Check.end();
    }

    /** What is due: days, then the villages; NONE alone, if there is no tour. */
    private static void tour(KingPrices x, int d, int... want) {
        Check.due("tour(" + d + ", -2)", x.tour(d, -2), want[0]);
        Check.due("tour(" + d + ", -1)", x.tour(d, -1), want[0] == NONE ? NONE : want.length - 1);
        for (int i = 0; i < 6; i++) {
            Check.due("tour(" + d + ", " + i + ")", x.tour(d, i), i + 1 < want.length ? want[i + 1] : NONE);
        }
    }

    private static void promise17Tour() {
        tour(new KingPrices(), 1, NONE);
        KingPrices none = Check.told("b9;m3;");
        tour(none, 3, 0);
        tour(none, 4, NONE);
        KingPrices x = Check.told(FOUR + "r0 1 2;r1 2 1;r0 2 1;m2;b8;");
        tour(x, 1, 0);
        tour(x, 4, 0);
        tour(x, 5, 0, 0);
        tour(x, 7, 0, 0);
        tour(x, 8, 2, 1);
        tour(x, 14, 2, 1);
        tour(x, 15, 2, 0, 1);
        tour(x, 17, 2, 0, 1);
        tour(x, 18, NONE);
        tour(x, 60, NONE);
        x.hides(1, 15);
        tour(x, 7, 0, 0);
        tour(x, 8, 2, 0, 1);
        tour(x, 10, NONE);
    }

    private static void promise17FewestVillagesThenDaysThenNumbers() {
        KingPrices x = Check.told("v0 0 0;v10 0 0;v10 0 0;v20 0 0;v20 0 0;r0 1 1;r0 2 1;r0 3 9;r0 4 8;m1;b20;");
        tour(x, 30, 1, 1);
        tour(x, 40, 8, 4);
        tour(x, 50, 10, 1, 4);
        tour(x, 60, 25, 4, 3);
    }

    private static void promise17NeverLacks() {
        String roads = "r0 1 2;r1 2 3;r0 2 4;m3;";
        tour(Check.told("v0 0 0;v9 0 0;v30 0 0;" + roads + "b12;"), 12, 4, 2);
        tour(Check.told("v0 0 0;v9 0 0;v30 0 0;" + roads + "b11;"), 12, 5, 1, 2);
        tour(Check.told("v0 0 0;v9 0 0;v30 0 0;" + roads + "b6;"), 12, 5, 1, 2);
        tour(Check.told("v0 0 0;v8 0 0;v30 0 0;" + roads + "b6;"), 12, NONE);
        tour(Check.told("v0 0 0;v9 0 0;v30 0 0;" + roads + "b5;"), 12, NONE);
        tour(Check.told("v9 0 1;v9 0 0;r0 1 1;m3;b2;"), 1, NONE);
        tour(Check.told("v9 0 1;v9 0 0;m3;b2;"), 1, NONE);
        tour(Check.told("v1 0 0;v1 0 0;v1 0 0;r0 1 1;r1 2 1;m1;"), 3, 2, 0, 1, 2);
    }

    private static void promise17FromWhereItIs() {
        KingPrices x = Check.told("v5 0 0;v5 0 0;v5 0 0;r0 2 1;r1 2 2;m1;b20;");
        x.goes(2);
        tour(x, 19, 0);
        tour(x, 24, 0, 2);
        tour(x, 29, 1, 2, 0);
        // The court's own village may come later in the row.
        tour(x, 34, 4, 0, 2, 1);
        tour(x, 35, NONE);
    }

    private static void promise17WhatWasEatenCounts() {
        KingPrices x = Check.told("v0 0 0;v5 0 0;r0 1 5;m1;b5;");
        tour(x, 10, 5, 1);
        tour(x, 11, NONE);
    }

    private static void promise17SixVillages() {
        KingPrices x = Check.told(SIX + "r0 1 1;r1 2 1;r2 3 1;r3 4 1;r4 5 1;m9;b99;");
        tour(x, 11, 0);
        tour(x, 12, 0, 0);
        tour(x, 50, 5, 0, 1, 2, 3, 4, 5);
        tour(x, 51, 5, 0, 1, 2, 3, 4, 5);
        tour(x, 52, NONE);
        x.goes(2);
        tour(x, 49, 7, 0, 1, 2, 3, 4, 5);
        tour(x, 50, NONE);
        KingPrices back = Check.told(SIX + "r0 5 2;r5 1 1;r1 4 3;r4 2 1;r2 3 1;m9;b99;");
        tour(back, 51, 8, 0, 5, 1, 4, 2, 3);
    }

    private static void promise17Bad() {
        KingPrices x = Check.told(FOUR);
        int[][] bad = {{0, -1}, {61, -1}, {-1, 0}, {1, -3}, {1, 6}, {LEAST, 0}, {MOST, 0}, {1, LEAST}, {1, MOST}};
        for (int[] b : bad) {
            Check.due("tour(" + b[0] + ", " + b[1] + ")", x.tour(b[0], b[1]), BAD);
            Check.due("new: tour(" + b[0] + ", " + b[1] + ")", new KingPrices().tour(b[0], b[1]), BAD);
        }
    }

    private static void promise18From() {
        KingPrices x = Check.told(FOUR);
        int[][] want = {{0, 0}, {1, 1}, {6, 1}, {7, 2}, {20, 2}, {21, 3}, {26, 3}, {27, 10}, {29, 10}, {30, 11},
            {35, 11}, {36, NONE}, {360, NONE}, {-1, BAD}, {361, BAD}, {LEAST, BAD}, {MOST, BAD}};
        String before = Check.seen(x);
        for (int[] w : want) {
            Check.due("from(" + w[0] + ")", x.from(w[0]), w[1]);
        }
        Check.alike("seen after from", Check.seen(x), before);
        x.hides(1, 12);
        Check.due("from(9), some hidden", x.from(9), 8);
        Check.due("from(23), some hidden", x.from(23), 11);
        Check.due("from(24), some hidden", x.from(24), NONE);
        KingPrices six = Check.told(SIX);
        Check.due("from(360)", six.from(360), 63);
        Check.due("from(300)", six.from(300), 31);
        Check.due("from(301)", six.from(301), 63);
        Check.due("from(60)", six.from(60), 1);
        Check.due("new: from(0)", new KingPrices().from(0), 0);
        Check.due("new: from(1)", new KingPrices().from(1), NONE);
    }

    private static void had(KingPrices x, int t, int least, int most) {
        Check.due("had(" + t + ", 0)", x.had(t, 0), least);
        Check.due("had(" + t + ", 1)", x.had(t, 1), most);
    }

    private static void promise19Had() {
        KingPrices seven = Check.told("w7;");
        had(seven, 0, 1, 1);
        had(seven, 1, 2, 2);
        had(seven, 6, 9, 9);
        had(seven, 7, 10, 11);
        had(seven, 41, 59, 59);
        had(seven, 42, 60, 60);
        had(seven, 43, NONE, NONE);
        had(seven, 60, NONE, NONE);
        KingPrices one = Check.told("v1 1 1;w1;");
        had(one, 0, 1, 9);
        had(one, 5, 50, 59);
        had(one, 6, 60, 60);
        had(one, 7, NONE, NONE);
        KingPrices ten = Check.told("w10;");
        had(ten, 0, NONE, NONE);
        had(ten, 1, 1, 1);
        had(ten, 60, 60, 60);
        KingPrices zero = Check.told("w0;");
        had(zero, 0, 1, 60);
        had(zero, 1, NONE, NONE);
        had(new KingPrices(), 48, 60, 60);
        int[][] bad = {{-1, 0}, {61, 0}, {0, -1}, {0, 2}, {LEAST, 0}, {MOST, 0}, {0, LEAST}, {0, MOST}};
        for (int[] b : bad) {
            Check.due("had(" + b[0] + ", " + b[1] + ")", seven.had(b[0], b[1]), BAD);
        }
    }

    private static void odds(KingPrices x, int in10, int n, int upper, int lower) {
        Check.due("odds(" + in10 + ", " + n + ", 0)", x.odds(in10, n, 0), upper);
        Check.due("odds(" + in10 + ", " + n + ", 1)", x.odds(in10, n, 1), lower);
    }

    private static void promise20Odds() {
        KingPrices x = Check.told(FOUR);
        String before = Check.seen(x);
        odds(x, 3, 0, 1, 1);
        odds(x, 3, 20, 7, 10);
        odds(x, 3, 26, 637, 1000);
        odds(x, 3, 27, 49, 100);
        odds(x, 3, 35, 343, 1000);
        odds(x, 3, 36, 0, 1);
        odds(x, 0, 35, 1, 1);
        odds(x, 0, 36, 0, 1);
        odds(x, 10, 0, 1, 1);
        odds(x, 10, 1, 0, 1);
        odds(x, 5, 35, 1, 8);
        Check.alike("seen after odds", Check.seen(x), before);
        x.hides(1, 20);
        odds(x, 3, 10, 49, 100);
        KingPrices six = Check.told(SIX);
        odds(six, 1, 360, 531441, 1000000);
        odds(six, 7, 60, 882351, 1000000);
        odds(six, 5, 180, 21, 32);
        odds(new KingPrices(), 0, 0, 1, 1);
        odds(new KingPrices(), 10, 360, 0, 1);
        int[][] bad = {{-1, 0, 0}, {11, 0, 0}, {0, -1, 0}, {0, 361, 0}, {0, 0, -1}, {0, 0, 2},
            {LEAST, 0, 0}, {MOST, 0, 0}, {0, LEAST, 0}, {0, MOST, 0}, {0, 0, LEAST}, {0, 0, MOST}};
        for (int[] b : bad) {
            Check.due("odds(" + b[0] + ", " + b[1] + ", " + b[2] + ")", x.odds(b[0], b[1], b[2]), BAD);
        }
    }
}
