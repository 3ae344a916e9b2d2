/** Promises 8 to 16: what is done, and undone. */
public final class DeedsTest {
    private static final int BAD = KingPrices.BAD, STATE = KingPrices.STATE, NONE = KingPrices.NONE;
    private static final int LEAST = Integer.MIN_VALUE, MOST = Integer.MAX_VALUE;
    private static final String SIX = "v60 0 0;v60 0 0;v60 0 0;v60 0 0;v60 0 0;v60 0 0;";
    private static final String LINE = SIX + "r0 1 9;r1 2 9;r2 3 9;r3 4 9;r4 5 9;";

    public static void main(String[] args) {
        promise8Goes();
        promise8DayAtMost();
        promise9Stays();
        promise10Takes();
        promise10TheMostThatCanBeTaken();
        promise11Hides();
        promise12Shows();
        promise13Pays();
        promise14Sells();
        promise15Undo();
        promise15UndoOfEach();
        promise15TenAreKnown();
        promise16Now();
        sixVillagesEachForItself();
        Check.end();
    }

    /** A call that is refused changes nothing. */
    private static void refused(KingPrices x, String call, String before, long got, long want) {
        Check.due(call, got, want);
        Check.alike("seen after " + call, Check.brief(x), before);
    }

    private static void promise8Goes() {
        KingPrices x = Check.told("v9 0 0;v9 0 1;v9 0 0;v9 0 0;r0 1 2;r1 2 3;m3;b10;");
        String before = Check.brief(x);
        for (int v : new int[] {-1, 4, 6, LEAST, MOST}) {
            refused(x, "goes(" + v + ")", before, x.goes(v), BAD);
        }
        refused(x, "goes to where it is", before, x.goes(0), STATE);
        refused(x, "goes where no way is", before, x.goes(3), STATE);
        Check.due("goes(1)", x.goes(1), 2);
        Check.due("court", x.now(0), 1);
        Check.due("day", x.now(1), 2);
        Check.due("basket", x.now(2), 4);
        Check.due("hunger", x.now(3), 0);
        Check.due("may be undone", x.count(4), 1);
        Check.due("goes(2)", x.goes(2), 5);
        Check.due("basket, eaten", x.now(2), 0);
        Check.due("hunger: lacks 2, then 3", x.now(3), 5);
        Check.due("goes(0), over 1", x.goes(0), 10);
        Check.due("hunger", x.now(3), 20);
        Check.due("court", x.now(0), 0);
        Check.due("hens stay", x.village(0, 0), 9);
    }

    private static void promise8DayAtMost() {
        KingPrices x = Check.told(LINE + "m9;");
        int day = 0;
        for (int i = 0; i < 22; i++) {
            day += 45;
            Check.due("goes, to and fro", x.goes(i % 2 == 0 ? 5 : 0), day);
        }
        String before = Check.brief(x);
        refused(x, "goes beyond day 999", before, x.goes(2), STATE);
        Check.due("goes to day 999", x.goes(1), 999);
        before = Check.brief(x);
        refused(x, "goes at day 999", before, x.goes(0), STATE);
        refused(x, "goes to no village at day 999", before, x.goes(6), BAD);
        refused(x, "stays at day 999", before, x.stays(), STATE);
        Check.due("the greatest hunger", x.now(3), 8991);
        Check.due("undo", x.undo(), 9);
        for (int n = 991; n <= 999; n++) {
            Check.due("stays", x.stays(), n);
        }
        Check.due("stays at day 999", x.stays(), STATE);
    }

    private static void promise9Stays() {
        KingPrices none = Check.told("b9;m2;");
        refused(none, "stays without villages", Check.brief(none), none.stays(), STATE);
        KingPrices x = Check.told("v5 0 1;m4;b9;");
        int[][] want = {{1, 5, 0}, {2, 1, 0}, {3, 0, 3}, {4, 0, 7}};
        for (int[] w : want) {
            Check.due("stays()", x.stays(), w[0]);
            Check.due("day", x.now(1), w[0]);
            Check.due("basket", x.now(2), w[1]);
            Check.due("hunger", x.now(3), w[2]);
        }
        Check.due("court", x.now(0), 0);
        Check.due("may be undone", x.count(4), 4);
    }

    private static void promise10Takes() {
        KingPrices x = Check.told("v20 15 0;v60 0 1;v8 0 0;r0 1 1;r1 2 1;w7;b3;m1;");
        String before = Check.brief(x);
        for (int n : new int[] {0, -1, 61, LEAST, MOST}) {
            refused(x, "takes(" + n + ")", before, x.takes(n), BAD);
        }
        refused(x, "takes more than are shown", before, x.takes(21), STATE);
        Check.due("takes(1)", x.takes(1), 0);
        Check.due("takes(9)", x.takes(9), 6);
        Check.due("shown", x.village(0, 0), 10);
        Check.due("hidden", x.village(0, 1), 0);
        Check.due("basket", x.now(2), 13);
        Check.due("tally", x.village(0, 4), 6);
        Check.due("day", x.now(1), 0);
        x.hides(0, 4);
        before = Check.brief(x);
        refused(x, "takes what is hidden", before, x.takes(7), STATE);
        Check.due("takes below the need", x.takes(6), 4);
        Check.due("tally", x.village(0, 4), 10);
        x.goes(1);
        before = Check.brief(x);
        refused(x, "takes by a charter", before, x.takes(1), STATE);
        refused(x, "takes 61 by a charter", before, x.takes(61), BAD);
        x.goes(2);
        Check.due("takes(8)", x.takes(8), 5);
        Check.due("tally of 2", x.village(2, 4), 5);
        Check.due("tally of 0", x.village(0, 4), 10);
        Check.due("shown of 2", x.village(2, 0), 0);
        KingPrices none = new KingPrices();
        refused(none, "takes without villages", Check.brief(none), none.takes(60), STATE);
        refused(none, "takes(0) without villages", Check.brief(none), none.takes(0), BAD);
    }

    private static void promise10TheMostThatCanBeTaken() {
        KingPrices x = Check.told(SIX + "r0 1 1;r1 2 1;r2 3 1;r3 4 1;r4 5 1;m1;w10;b99;");
        for (int v = 0; v < 6; v++) {
            if (v > 0) {
                x.goes(v);
            }
            Check.due("takes(60)", x.takes(60), 60);
        }
        Check.due("the fullest basket", x.now(2), 454);
        Check.due("all tallies", x.now(5), 360);
        KingPrices zero = Check.told("v60 0 0;w0;");
        Check.due("takes(60), nothing written", zero.takes(60), 0);
        Check.due("tally", zero.village(0, 4), 0);
        Check.due("basket", zero.now(2), 60);
    }

    private static void promise11Hides() {
        KingPrices x = Check.told("v20 0 0;v60 0 1;");
        String before = Check.brief(x);
        int[][] bad = {{-1, 1}, {2, 1}, {0, 0}, {0, 61}, {0, -1}, {6, 1}, {LEAST, 1}, {MOST, 1}, {0, LEAST}, {0, MOST}};
        for (int[] b : bad) {
            refused(x, "hides(" + b[0] + ", " + b[1] + ")", before, x.hides(b[0], b[1]), BAD);
        }
        refused(x, "hides more than are shown", before, x.hides(0, 21), STATE);
        Check.due("hides(0, 5)", x.hides(0, 5), 5);
        Check.due("hides(0, 15)", x.hides(0, 15), 20);
        Check.due("shown", x.village(0, 0), 0);
        Check.due("hides(0, 1)", x.hides(0, 1), STATE);
        Check.due("hides elsewhere, by a charter", x.hides(1, 60), 60);
        Check.due("may be undone", x.count(4), 3);
    }

    private static void promise12Shows() {
        KingPrices x = Check.told("v20 0 0;v60 0 1;");
        refused(x, "shows when none is hidden", Check.brief(x), x.shows(0, 1), STATE);
        x.hides(0, 12);
        x.hides(1, 60);
        String before = Check.brief(x);
        int[][] bad = {{-1, 1}, {2, 1}, {0, 0}, {0, 61}, {0, -1}, {6, 1}, {LEAST, 1}, {MOST, 1}, {0, LEAST}, {0, MOST}};
        for (int[] b : bad) {
            refused(x, "shows(" + b[0] + ", " + b[1] + ")", before, x.shows(b[0], b[1]), BAD);
        }
        refused(x, "shows more than are hidden", before, x.shows(0, 13), STATE);
        Check.due("shows(0, 5)", x.shows(0, 5), 13);
        Check.due("hidden", x.village(0, 1), 7);
        Check.due("shows(0, 7)", x.shows(0, 7), 20);
        Check.due("shows(1, 60)", x.shows(1, 60), 60);
        Check.due("may be undone", x.count(4), 5);
    }

    private static void promise13Pays() {
        KingPrices x = Check.told("v20 0 0;v60 0 0;w10;");
        x.takes(15);
        String before = Check.brief(x);
        for (int v : new int[] {-1, 2, 6, LEAST, MOST}) {
            refused(x, "pays(" + v + ")", before, x.pays(v), BAD);
        }
        Check.due("pays(0)", x.pays(0), 15);
        Check.due("tally", x.village(0, 4), 0);
        Check.due("coins", x.village(0, 5), 0);
        Check.due("pays(0) again", x.pays(0), 0);
        Check.due("pays(1)", x.pays(1), 0);
        Check.due("may be undone", x.count(4), 4);
    }

    private static void promise14Sells() {
        KingPrices x = Check.told("v60 0 0;v60 0 0;r0 1 1;w10;");
        x.takes(50);
        String before = Check.brief(x);
        int[][] bad = {{-1, 1}, {2, 1}, {0, 0}, {0, 100}, {0, -1}, {6, 1}, {LEAST, 1}, {MOST, 1}, {0, LEAST}, {0, MOST}};
        for (int[] b : bad) {
            refused(x, "sells(" + b[0] + ", " + b[1] + ")", before, x.sells(b[0], b[1]), BAD);
        }
        refused(x, "sells more than the tally", before, x.sells(0, 51), STATE);
        refused(x, "sells(0, 99)", before, x.sells(0, 99), STATE);
        refused(x, "sells of another", before, x.sells(1, 1), STATE);
        Check.due("sells(0, 2)", x.sells(0, 2), 0);
        Check.due("tally", x.village(0, 4), 48);
        Check.due("sells(0, 3)", x.sells(0, 3), 1);
        Check.due("sells(0, 5)", x.sells(0, 5), 2);
        Check.due("sells(0, 40)", x.sells(0, 40), 15);
        Check.due("tally, all sold", x.village(0, 4), 0);
        Check.due("coins", x.village(0, 5), 15);
        Check.due("coins of another", x.village(1, 5), 0);
        Check.due("sells(0, 1)", x.sells(0, 1), STATE);
        Check.due("basket stays", x.now(2), 50);
    }

    private static void promise15Undo() {
        KingPrices x = Check.told("v60 10 0;v30 0 0;r0 1 2;w9;b5;m4;");
        String[] seen = new String[9];
        seen[0] = Check.brief(x);
        x.takes(20);
        seen[1] = Check.brief(x);
        x.hides(0, 7);
        seen[2] = Check.brief(x);
        x.shows(0, 3);
        seen[3] = Check.brief(x);
        x.sells(0, 10);
        seen[4] = Check.brief(x);
        x.goes(1);
        seen[5] = Check.brief(x);
        x.stays();
        seen[6] = Check.brief(x);
        x.pays(0);
        seen[7] = Check.brief(x);
        x.pays(0);
        for (int left = 7; left >= 0; left--) {
            Check.due("undo()", x.undo(), left);
            Check.alike("seen after undo", Check.brief(x), seen[left]);
        }
        refused(x, "undo of nothing", seen[0], x.undo(), STATE);
        Check.due("done anew", x.takes(1), 0);
        Check.due("undo of that", x.undo(), 0);
        Check.alike("seen after that", Check.brief(x), seen[0]);
    }

    private static void promise15UndoOfEach() {
        KingPrices x = Check.told("v60 0 0;v9 0 0;r0 1 2;w10;");
        x.takes(30);
        x.hides(0, 10);
        String before = Check.brief(x);
        for (int deed = 0; deed < 7; deed++) {
            switch (deed) {
                case 0: x.goes(1); break;
                case 1: x.stays(); break;
                case 2: x.takes(5); break;
                case 3: x.hides(1, 5); break;
                case 4: x.shows(0, 5); break;
                case 5: x.pays(0); break;
                default: x.sells(0, 6); break;
            }
            Check.due("deed " + deed + " may be undone", x.count(4), 3);
            Check.due("undo of deed " + deed, x.undo(), 2);
            Check.alike("seen after undo of deed " + deed, Check.brief(x), before);
        }
        x.goes(7);
        x.takes(61);
        x.takes(60);
        x.hides(0, 60);
        x.shows(0, 60);
        x.pays(2);
        x.sells(0, 60);
        Check.due("what is refused can't be undone", x.count(4), 2);
    }

    private static void promise15TenAreKnown() {
        KingPrices x = Check.told("v60 0 0;b50;m1;");
        for (int day = 1; day <= 13; day++) {
            Check.due("stays()", x.stays(), day);
            Check.due("may be undone", x.count(4), Math.min(day, 10));
        }
        for (int left = 9; left >= 0; left--) {
            Check.due("undo()", x.undo(), left);
            Check.due("day", x.now(1), left + 3);
            Check.due("basket", x.now(2), 47 - left);
        }
        Check.due("older ones are lost", x.undo(), STATE);
        Check.due("day", x.now(1), 3);
    }

    private static void promise16Now() {
        KingPrices x = Check.told("v60 10 0;v30 35 0;v8 2 0;v9 0 1;r0 2 2;w10;b11;m4;");
        int[] first = {0, 0, 11, 0, 2, 0, 56};
        for (int what = 0; what < first.length; what++) {
            Check.due("now(" + what + ")", x.now(what), first[what]);
        }
        x.takes(10);
        x.goes(2);
        x.takes(5);
        x.hides(0, 45);
        x.stays();
        x.stays();
        x.stays();
        x.stays();
        x.stays();
        int[] then = {2, 7, 0, 2, 0, 15, 6};
        for (int what = 0; what < then.length; what++) {
            Check.due("now(" + what + ") then", x.now(what), then[what]);
        }
        for (int what : new int[] {-1, 7, LEAST, MOST}) {
            Check.due("now(" + what + ")", x.now(what), BAD);
        }
        Check.due("court without villages", new KingPrices().now(0), NONE);
    }

    /** Hens, tallies and coins of one village never come to another one's. */
    private static void sixVillagesEachForItself() {
        KingPrices x = Check.told("v51 1 0;v52 2 0;v53 3 0;v54 4 0;v55 5 0;v56 6 0;"
            + "r0 1 1;r1 2 1;r2 3 1;r3 4 1;r4 5 1;m1;w10;b99;");
        int[][] want = new int[6][];
        for (int v = 0; v < 6; v++) {
            if (v > 0) {
                Check.due("goes(" + v + ")", x.goes(v), v);
            }
            Check.due("takes", x.takes(20 + v), 20 + v);
            Check.due("sells", x.sells(v, 6 + 3 * v), 2 + v);
            Check.due("hides", x.hides(v, 10 + v), 10 + v);
            int shown = 51 + v - (20 + v) - (10 + v);
            int spare = Math.min(shown, shown + 10 + v - (1 + v));
            want[v] = new int[] {shown, 10 + v, 1 + v, 0, 14 - 2 * v, 2 + v, spare};
        }
        for (int v = 0; v < 6; v++) {
            for (int what = 0; what < 7; what++) {
                Check.due("six: village(" + v + ", " + what + ")", x.village(v, what), want[v][what]);
            }
            int[] marks = {want[v][0], want[v][0] + 10 + v, want[v][0] - 1 - v, 2 * (want[v][0] + 10 + v),
                want[v][0] - 1 - v + 2 + v, want[v][0] + 14 - 2 * v};
            for (int kind = 0; kind < 6; kind++) {
                Check.due("six: mark(" + kind + ", " + v + ")", x.mark(kind, v), marks[kind]);
            }
        }
        Check.due("six: court", x.now(0), 5);
        Check.due("six: basket", x.now(2), 99 + 135 - 5);
        Check.due("six: fed by one mouth", x.now(4), 99 + 135 - 5);
        Check.due("six: tallies", x.now(5), 54);
        for (int v = 0; v < 6; v++) {
            Check.due("six: pays(" + v + ")", x.pays(v), 14 - 2 * v);
            Check.due("six: tally of " + v, x.village(v, 4), 0);
            Check.due("six: coins of " + v, x.village(v, 5), 2 + v);
            Check.due("six: shows(" + v + ")", x.shows(v, 10 + v), want[v][0] + 10 + v);
        }
    }
}
