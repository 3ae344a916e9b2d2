/** Terms 3 and promises 21 to 24: games, rings, what is owed. */
final class GamesBounds {
    private static final int BAD = KingPrices.BAD, NONE = KingPrices.NONE, NO = KingPrices.NO;
    private static final int LEAST = Integer.MIN_VALUE, MOST = Integer.MAX_VALUE;
    private static final String SIX = "v0 0 0;".repeat(6);

    private GamesBounds() {
    }

    static void all() {
        restsAtTheEdges();
        restsBounds();
        mixed();
        mixedBounds();
        ringsOfEachLength();
        ringOfFewest();
        ringTheFirst();
        ringWhatCanBeCancelled();
        ringBounds();
        net();
    }

    private static void restsAtTheEdges() {
        Doc.terms("GAME for h (1 .. 60), c (0 .. 60), f (0 .. 60): a VILLAGE hides h hens or not, a buyer searches or not:",
            "not hidden: he has h, it h less; hidden, not searched: 0 each; hidden, searched: he has h, it has h and f less (a fine, which he does not get);",
            "whoever searches has c less.",
            "RESTS: bits 0 .. 3 (2 if it hides, and 1 if he searches): twos by which neither has more by doing otherwise alone.");
        Doc.promise(21, "`int rests(int h, int c, int f)`: RESTS, as bits.");
        KingPrices x = new KingPrices();
        // By c: 0 (searching is free), less than h, h itself (he is as well off either way), more than h.
        for (int h : new int[] {2, 3, 30, 59}) {
            Check.due("free to search, no fine, of " + h, x.rests(h, 0, 0), 2 + 8);
            Check.due("free to search, a fine, of " + h, x.rests(h, 0, 1), 2);
            Check.due("searching costs one, no fine, of " + h, x.rests(h, 1, 0), 8);
            Check.due("searching costs one, a fine, of " + h, x.rests(h, 1, 1), 0);
            Check.due("searching costs less, no fine, of " + h, x.rests(h, h - 1, 0), 8);
            Check.due("searching costs less, a fine, of " + h, x.rests(h, h - 1, 60), 0);
            Check.due("searching costs h, no fine, of " + h, x.rests(h, h, 0), 4 + 8);
            Check.due("searching costs h, a fine, of " + h, x.rests(h, h, 1), 4);
            Check.due("searching costs more, no fine, of " + h, x.rests(h, h + 1, 0), 4);
            Check.due("searching costs more, a fine, of " + h, x.rests(h, h + 1, 60), 4);
        }
    }

    private static void restsBounds() {
        Doc.promise(21, "BAD.");
        KingPrices x = new KingPrices();
        Check.due("rests(1, 0, 0)", x.rests(1, 0, 0), 10);
        Check.due("rests(60, 0, 60)", x.rests(60, 0, 60), 2);
        Check.due("rests(60, 60, 60)", x.rests(60, 60, 60), 4);
        Check.due("rests(60, 60, 0)", x.rests(60, 60, 0), 12);
        Check.due("rests(1, 60, 60)", x.rests(1, 60, 60), 4);
        for (int wrong : new int[] {-1, 61, LEAST, MOST}) {
            Check.due("rests(" + wrong + ", 0, 0)", x.rests(wrong, 0, 0), BAD);
            Check.due("rests(1, " + wrong + ", 0)", x.rests(1, wrong, 0), BAD);
            Check.due("rests(1, 0, " + wrong + ")", x.rests(1, 0, wrong), BAD);
        }
        Check.due("rests(0, 0, 0)", x.rests(0, 0, 0), BAD);
    }

    private static void mixed() {
        Doc.terms("MIXED: by what odds he should search so that hiding and not are alike to it: h by (h and f): a fraction.");
        Doc.promise(22, "`int mixed(int h, int f, int what)`: MIXED: upper (what = 0), lower number (1), in least terms.");
        int[][] want = {{1, 0, 1, 1}, {60, 0, 1, 1}, {1, 1, 1, 2}, {60, 60, 1, 2}, {1, 60, 1, 61}, {60, 1, 60, 61}, {10, 5, 2, 3},
            {5, 10, 1, 3}, {59, 60, 59, 119}, {60, 59, 60, 119}, {45, 60, 3, 7}, {7, 3, 7, 10}};
        KingPrices x = new KingPrices();
        for (int[] w : want) {
            Check.due("mixed(" + w[0] + ", " + w[1] + ", 0)", x.mixed(w[0], w[1], 0), w[2]);
            Check.due("mixed(" + w[0] + ", " + w[1] + ", 1)", x.mixed(w[0], w[1], 1), w[3]);
        }
    }

    private static void mixedBounds() {
        Doc.promise(22, "BAD.");
        KingPrices x = new KingPrices();
        for (int wrong : new int[] {-1, 61, LEAST, MOST}) {
            Check.due("mixed(" + wrong + ", 0, 0)", x.mixed(wrong, 0, 0), BAD);
            Check.due("mixed(1, " + wrong + ", 0)", x.mixed(1, wrong, 0), BAD);
            Check.due("mixed(1, 0, " + wrong + ")", x.mixed(1, 0, wrong), BAD);
        }
        Check.due("mixed(0, 0, 0)", x.mixed(0, 0, 0), BAD);
        Check.due("mixed(0, 1, 1)", x.mixed(0, 1, 1), BAD);
        Check.due("mixed(1, 0, 2)", x.mixed(1, 0, 2), BAD);
    }

    /** What is due: what can be cancelled, then the villages; NONE alone, if there is no ring. */
    private static void ring(String text, int... want) {
        KingPrices x = Check.told(text);
        Check.due(text + " ring(-2)", x.ring(-2), want[0]);
        Check.due(text + " ring(-1)", x.ring(-1), want[0] == NONE ? NONE : want.length - 1);
        for (int i = 0; i < 6; i++) {
            Check.due(text + " ring(" + i + ")", x.ring(i), i + 1 < want.length ? want[i + 1] : NONE);
        }
    }

    private static void ringsOfEachLength() {
        Doc.terms("RING: VILLAGES one behind another, unlike, each of which OWES the next one, the last one the first:");
        for (int length = 2; length <= 6; length++) {
            StringBuilder open = new StringBuilder(SIX);
            int[] up = new int[length + 1];
            for (int i = 0; i + 1 < length; i++) {
                open.append("d" + i + " " + (i + 1) + " 5;");
            }
            for (int i = 0; i < length; i++) {
                up[i + 1] = i;
            }
            up[0] = 3;
            ring(open.toString(), NONE);
            ring(open + "d" + (length - 1) + " 0 3;", up);
        }
        ring("v0 0 0;", NONE);
        ring("", NONE);
        ring(SIX + "d0 5 9;d5 4 9;d4 3 9;d3 2 9;d2 1 9;d1 0 9;", 9, 0, 5, 4, 3, 2, 1);
        ring(SIX + "d0 1 9;d0 2 9;d0 3 9;d1 2 9;d1 3 9;d2 3 9;d3 4 9;d4 5 9;", NONE);
    }

    private static void ringOfFewest() {
        Doc.terms("of all such that of fewest VILLAGES");
        ring(SIX + "d0 1 9;d1 2 9;d2 0 9;d5 4 1;d4 5 2;", 1, 4, 5);
        ring(SIX + "d0 1 9;d1 2 9;d2 3 9;d3 0 9;d3 1 4;", 4, 1, 2, 3);
        ring(SIX + "d0 1 9;d1 2 9;d2 3 9;d3 4 9;d4 5 9;d5 0 9;d5 1 7;", 7, 1, 2, 3, 4, 5);
    }

    private static void ringTheFirst() {
        Doc.terms("of several the first (begun by its lowest; by numbers)");
        ring(SIX + "d5 4 9;d4 5 8;", 8, 4, 5);
        ring(SIX + "d3 2 9;d2 5 8;d5 3 7;", 7, 2, 5, 3);
        ring(SIX + "d2 3 9;d3 2 9;d0 5 6;d5 0 9;", 6, 0, 5);
        ring(SIX + "d0 5 6;d5 0 9;d0 4 9;d4 0 7;", 7, 0, 4);
        ring(SIX + "d0 1 9;d1 5 9;d5 0 4;d1 4 9;d4 0 5;", 5, 0, 1, 4);
        ring(SIX + "d0 1 9;d1 2 9;d2 0 4;d0 2 9;d2 1 9;d1 0 5;", 5, 0, 1);
        ring(SIX + "d0 2 9;d2 1 9;d1 0 4;", 4, 0, 2, 1);
    }

    private static void ringWhatCanBeCancelled() {
        Doc.terms("how many; the i-th; what can be cancelled (the least that one OWES in it); NONE.");
        ring(SIX + "d0 1 1;d1 0 99;", 1, 0, 1);
        ring(SIX + "d0 1 99;d1 0 1;", 1, 0, 1);
        ring(SIX + "d0 1 7;d1 2 6;d2 0 7;", 6, 0, 1, 2);
        ring(SIX + "d0 1 7;d1 2 7;d2 0 6;", 6, 0, 1, 2);
        ring(SIX + "d0 1 6;d1 2 7;d2 0 7;", 6, 0, 1, 2);
        ring(SIX + "d0 1 60;d0 1 40;d1 0 99;", 99, 0, 1);
        ring(SIX + "d0 1 60;d0 1 38;d1 0 99;", 98, 0, 1);
        String eight = "d0 1 99;".repeat(8);
        ring("v0 0 0;v0 0 0;" + eight + "d1 0 99;".repeat(9), 792, 0, 1);
    }

    private static void ringBounds() {
        Doc.promise(23, "`int ring(int i)`: RING: how many (i = -1), what can be cancelled (-2), the i-th (NONE: not so many); NONE.",
            "BAD (i -2 .. 5).");
        KingPrices x = Check.told(SIX + "d0 1 9;d1 0 8;");
        int[] want = {8, 2, 0, 1, NONE, NONE, NONE, NONE};
        for (int i = -2; i <= 5; i++) {
            Check.due("ring(" + i + ")", x.ring(i), want[i + 2]);
            Check.due("new: ring(" + i + ")", new KingPrices().ring(i), NONE);
        }
        for (int wrong : new int[] {-3, 6, LEAST, MOST}) {
            Check.due("ring(" + wrong + ")", x.ring(wrong), BAD);
            Check.due("new: ring(" + wrong + ")", new KingPrices().ring(wrong), BAD);
        }
    }

    private static void net() {
        Doc.terms("NET of a VILLAGE: what it is OWED less what it OWES.");
        Doc.promise(24, "`int net(int v)`: NET.", "NO: BAD.");
        KingPrices x = Check.told("v0 0 0;v0 0 0;v0 0 0;v0 0 0;d0 1 20;d1 0 20;d2 0 1;d2 1 99;");
        int[] want = {1, 99, -100, 0};
        for (int v = 0; v < 4; v++) {
            Check.due("net(" + v + ")", x.net(v), want[v]);
        }
        for (int wrong : new int[] {-1, 4, 6, LEAST, MOST}) {
            Check.due("net(" + wrong + ")", x.net(wrong), NO);
        }
        Check.due("new: net(0)", new KingPrices().net(0), NO);
        Check.due("net(5) of six", Check.told(SIX).net(5), 0);
        Check.due("net(6) of six", Check.told(SIX).net(6), NO);
        KingPrices held = Check.told("v0 0 0;v0 0 0;" + "d0 1 99;".repeat(11) + "d1 0 4;");
        Check.due("net of what is held at 999", held.net(0), -995);
        Check.due("net of what is held at 999", held.net(1), 995);
    }
}
