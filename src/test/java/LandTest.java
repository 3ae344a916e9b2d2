/** Promises 1 to 7, and what count() says of the land. */
public final class LandTest {
    private static final int BAD = KingPrices.BAD, FULL = KingPrices.FULL, NONE = KingPrices.NONE;
    private static final int LEAST = Integer.MIN_VALUE, MOST = Integer.MAX_VALUE;
    private static final String SIX = "v1 0 0;v2 0 0;v3 0 0;v4 0 0;v5 0 0;v6 0 0;";
    private static final String TWO = "v0 0 0;v0 0 0;";

    public static void main(String[] args) {
        promise1NewObject();
        promise2Type();
        promise3Clear();
        promise4Items();
        promise4Faults();
        promise4FaultsOfTokens();
        promise4NothingChangesByFault();
        promise4ReadAnew();
        promise4NothingStaysOfOlderTexts();
        promise5Village();
        promise6Far();
        promise7Owes();
        Check.end();
    }

    private static void promise1NewObject() {
        KingPrices x = new KingPrices();
        Check.due("new: village(0, 0)", x.village(0, 0), BAD);
        Check.due("new: far(0, 0)", x.far(0, 0), BAD);
        Check.due("new: owes(0, 1)", x.owes(0, 1), BAD);
        Check.due("new: goes(0)", x.goes(0), BAD);
        Check.due("new: stays()", x.stays(), KingPrices.STATE);
        Check.due("new: takes(1)", x.takes(1), KingPrices.STATE);
        Check.due("new: hides(0, 1)", x.hides(0, 1), BAD);
        Check.due("new: shows(0, 1)", x.shows(0, 1), BAD);
        Check.due("new: pays(0)", x.pays(0), BAD);
        Check.due("new: sells(0, 1)", x.sells(0, 1), BAD);
        Check.due("new: undo()", x.undo(), KingPrices.STATE);
        Check.due("new: back(0)", x.back(0), KingPrices.STATE);
        Check.due("new: back(1)", x.back(1), KingPrices.STATE);
        Check.due("new: net(0)", x.net(0), KingPrices.NO);
        Check.due("new: mark(0, 0)", x.mark(0, 0), KingPrices.NO);
        Check.due("new: trace()", x.trace(), 0);
        Check.due("new: clear()", x.clear(), 0);
    }

    private static void promise2Type() {
        KingPrices x = new KingPrices();
        for (int c : new int[] {-1, 256, LEAST, MOST}) {
            Check.due("type(" + c + ")", x.type(c), BAD);
        }
        Check.due("bytes after BAD", x.count(5), 0);
        Check.due("type(0)", x.type(0), 1);
        Check.due("type(255)", x.type(255), 2);
        for (int i = 3; i <= 180; i++) {
            Check.due("type, the " + i + "th", x.type(i), i);
        }
        Check.due("type, the 181st", x.type(';'), FULL);
        Check.due("type, wrong and full", x.type(256), BAD);
        Check.due("bytes after FULL", x.count(5), 180);
        Check.due("clear when full", x.clear(), 180);
        Check.due("type after clear", x.type(0), 1);
    }

    private static void promise3Clear() {
        KingPrices x = Check.typed("v1 1 1;");
        Check.due("clear()", x.clear(), 7);
        Check.due("clear() again", x.clear(), 0);
        Check.due("bytes", x.count(5), 0);
        Check.type(x, "m5;");
        Check.due("land() reads only what came after clear()", x.land(), 1);
        Check.due("villages", x.count(0), 0);
        Check.due("mouths", x.count(2), 5);
    }

    private static void promise4Items() {
        KingPrices empty = Check.told("");
        Check.due("villages of nothing", empty.count(0), 0);
        KingPrices blanks = Check.told("     ");
        Check.due("villages of blanks", blanks.count(0), 0);
        KingPrices only = Check.told("b50;");
        Check.due("basket without villages", only.now(2), 50);
        Check.due("court without villages", only.now(0), NONE);
        Check.due("fed without villages", only.now(4), 16);

        KingPrices x = Check.told("  v 7 60 0 ; v60 0 1;w 0;r0 1 9 ;d 1 0 99;m9;b99;v0 7 0;  ");
        int[] counts = {3, 1, 9, 0, 0, 0};
        for (int what = 0; what < counts.length; what++) {
            Check.due("count(" + what + ")", x.count(what), counts[what]);
        }
        Check.due("court", x.now(0), 0);
        Check.due("basket", x.now(2), 99);
        Check.due("fed", x.now(4), 11);
        Check.due("hens of 2", x.village(2, 0), 0);
        Check.due("need of 2", x.village(2, 2), 7);

        KingPrices least = Check.told("m1;w10;b0;v0 0 0;");
        Check.due("mouths", least.count(2), 1);
        Check.due("writes", least.count(3), 10);
        Check.due("basket", least.now(2), 0);

        KingPrices long180 = Check.typed("v1 1 1;" + " ".repeat(170) + "m2;");
        Check.due("bytes", long180.count(5), 180);
        Check.due("land of 180 bytes", long180.land(), 2);
        Check.due("text is empty then", long180.count(5), 0);
        KingPrices many = Check.told(SIX + "r0 1 9;".repeat(10) + "d0 1 1;".repeat(9));
        Check.due("roads, all told", many.count(1), 10);
        Check.due("villages", many.count(0), 6);
    }

    private static void promise4Faults() {
        Check.fault("v", 1);
        Check.fault("v   ", 4);
        Check.fault("v1", 2);
        Check.fault("v1 1", 4);
        Check.fault("v1 1 1", 6);
        Check.fault("v1 1 1;m", 8);
        Check.fault("v61 0 0;", 1);
        Check.fault("v60 61 0;", 4);
        Check.fault("v60 60 2;", 7);
        Check.fault("v60 60 1 1;", 9);
        Check.fault("v60 60;", 6);
        Check.fault("v60;", 3);
        Check.fault("v;", 1);
        Check.fault("v v", 2);
        Check.fault("v1 1 1 v1 1 1;", 7);
        Check.fault("v1 1 m;", 5);
        Check.fault(SIX + " v0 0 0;", SIX.length() + 1);
        Check.fault(SIX + "v", SIX.length());
        Check.fault(TWO + "r0 1 9;".repeat(10) + "r0 1 9;", 84);
        Check.fault(TWO + "r0 1 9;".repeat(10) + " r", 85);
        Check.fault(TWO + "r2 0 1;", 15);
        Check.fault(TWO + "r0 2 1;", 17);
        Check.fault(TWO + "r1 1 1;", 17);
        Check.fault(TWO + "r0 0 1;", 17);
        Check.fault(TWO + "r0 1 0;", 19);
        Check.fault(TWO + "r0 1 10;", 19);
        Check.fault(TWO + "r0 1;", 18);
        Check.fault(TWO + "r0 1 1 1;", 21);
        Check.fault(TWO + "d2 0 1;", 15);
        Check.fault(TWO + "d0 2 1;", 17);
        Check.fault(TWO + "d1 1 1;", 17);
        Check.fault(TWO + "d0 1 0;", 19);
        Check.fault(TWO + "d0 1 100;", 19);
        Check.fault("r0 1 1;" + TWO, 1);
        Check.fault("d0 1 1;" + TWO, 1);
        Check.fault("v0 0 0;r0 1 1;v0 0 0;", 10);
        Check.fault("m0;", 1);
        Check.fault("m10;", 1);
        Check.fault("m1 1;", 3);
        Check.fault("m;", 1);
        Check.fault("m1;m1;", 3);
        Check.fault("w11;", 1);
        Check.fault("w1;w1;", 3);
        Check.fault("w1 1;", 3);
        Check.fault("b100;", 1);
        Check.fault("b1;b1;", 3);
        Check.fault("b1;m1;w1;m", 9);
    }

    private static void promise4FaultsOfTokens() {
        Check.fault(";", 0);
        Check.fault(" ;", 1);
        Check.fault("7", 0);
        Check.fault("m1;;", 3);
        Check.fault("m1;5;", 3);
        Check.fault("x1;", 0);
        Check.fault("a", 0);
        Check.fault("z", 0);
        Check.fault("mm1;", 0);
        Check.fault("vr", 0);
        Check.fault("m1;bb", 3);
        Check.fault("V1 1 1;", 0);
        Check.fault("v1 1 1;!", 7);
        Check.fault("v1 1 1;\t", 7);
        Check.fault("v1\n1 1;", 2);
        Check.fault("v1 1-1;", 4);
        Check.fault("v1 1 1;" + (char) 0, 7);
        Check.fault("" + (char) 255, 0);
        Check.fault("m" + (char) 160 + "1;", 1);
        Check.fault("m`1;", 1);
        Check.fault("m{1;", 1);
        Check.fault("m/1;", 1);
        Check.fault("m:1;", 1);
        Check.fault("v01 0 0;", 1);
        Check.fault("v00 0 0;", 1);
        Check.fault("v0 00 0;", 3);
        Check.fault("v0 0 01;", 5);
        Check.fault("b099;", 1);
        Check.fault("b 100;", 2);
        Check.fault("b4294967297;", 1);
        Check.fault("b18446744073709551617;", 1);
        Check.fault("b" + "9".repeat(179), 1);
        Check.fault("v aa 0 0;", 2);
        Check.fault("v0 0 aa;", 5);
        Check.fault("98 5;", 0);
        Check.fault("m1!", 2);
        Check.fault("m1 100", 3);
        Check.fault("m1 01", 3);
        Check.fault("v61 ! 0;", 1);
        Check.fault("v60 0 0;100", 8);
    }

    private static void promise4NothingChangesByFault() {
        KingPrices x = Check.told("v9 1 0;v8 0 0;r0 1 2;d0 1 7;m2;w5;b4;");
        x.keep(0);
        x.takes(4);
        Check.type(x, "v1 1 1;v2 2 0;m7;w1;b9;!");
        String before = Check.seen(x);
        Check.due("land with a fault", x.land(), -33);
        Check.alike("seen after a fault", Check.seen(x), before);
        Check.due("the image is there", x.back(0), 0);
        Check.due("hens of the image", x.village(0, 0), 9);
        Check.due("text is there", x.count(5), 24);
        Check.due("land with the fault again", x.land(), -33);
    }

    private static void promise4ReadAnew() {
        KingPrices x = Check.told("v20 1 0;v8 2 1;r0 1 2;r0 1 5;d0 1 7;m9;w5;b4;");
        x.takes(10);
        x.sells(0, 3);
        x.hides(0, 2);
        x.goes(1);
        x.keep(0);
        x.keep(1);
        x.mark(3, 0);
        Check.due("hunger", x.now(3), 4);
        Check.type(x, "v20 0 0;v8 0 0;");
        Check.due("land anew", x.land(), 2);
        int[] counts = {2, 0, 3, 8, 0, 0};
        for (int what = 0; what < counts.length; what++) {
            Check.due("anew: count(" + what + ")", x.count(what), counts[what]);
        }
        int[] now = {0, 0, 0, 0, 0, 0, 28};
        for (int what = 0; what < now.length; what++) {
            Check.due("anew: now(" + what + ")", x.now(what), now[what]);
        }
        int[] zero = {20, 0, 0, 0, 0, 0, 20};
        for (int what = 0; what < zero.length; what++) {
            Check.due("anew: village(0, " + what + ")", x.village(0, what), zero[what]);
        }
        Check.due("anew: far(0, 1)", x.far(0, 1), NONE);
        Check.due("anew: owes(0, 1)", x.owes(0, 1), 0);
        Check.due("anew: undo()", x.undo(), KingPrices.STATE);
        Check.due("anew: back(0)", x.back(0), KingPrices.STATE);
        Check.due("anew: back(1)", x.back(1), KingPrices.STATE);
        Check.due("anew: trace()", x.trace(), 1011);
        Check.due("land of the empty text", x.land(), 0);
        Check.due("villages then", x.count(0), 0);
        Check.due("court then", x.now(0), NONE);
    }

    private static void promise4NothingStaysOfOlderTexts() {
        String[] older = {SIX + "r0 1 2;d0 1 3;m9;w1;b7;", SIX + "r0 1 3;r2 3 1;d1 0 3;m8;w2;b8;",
            SIX + "r0 1 2;d0 1 3;m9;w1;b7;!", "m1;w1;b1;v1 1 1;v1 1 1;r0 1 1;r0 1 1;d1 0 5;r"};
        String[] newer = {"", "v9 1 0;", "v3 2 0;v4 0 0;r1 0 9;d1 0 1;", "m2;", "w4;b3;v0 0 1;"};
        for (String text : newer) {
            KingPrices x = new KingPrices();
            for (int i = 0; i < older.length; i++) {
                Check.type(x, older[i]);
                x.land();
                x.clear();
            }
            Check.type(x, text);
            x.land();
            Check.alike("a land told after others by " + text, Check.seen(x), Check.seen(Check.told(text)));
        }
    }

    private static void promise5Village() {
        KingPrices x = Check.told("v60 10 0;v12 20 0;v30 5 1;w7;");
        int[][] want = {{60, 0, 10, 0, 0, 0, 50}, {12, 0, 20, 0, 0, 0, 0}, {30, 0, 5, 1, 0, 0, 0}};
        for (int v = 0; v < 3; v++) {
            for (int what = 0; what < 7; what++) {
                Check.due("village(" + v + ", " + what + ")", x.village(v, what), want[v][what]);
            }
        }
        x.hides(0, 55);
        Check.due("spare: only what is shown", x.village(0, 6), 5);
        x.shows(0, 50);
        Check.due("spare: only above the need", x.village(0, 6), 50);
        x.takes(50);
        Check.due("spare: nothing above the need", x.village(0, 6), 0);
        Check.due("tally", x.village(0, 4), 35);
        x.sells(0, 8);
        Check.due("coins", x.village(0, 5), 2);
        x.takes(5);
        Check.due("spare: 0 at least", x.village(0, 6), 0);
        Check.due("hidden", x.village(0, 1), 5);
        KingPrices two = Check.told("v9 0 0;v20 15 0;");
        two.hides(1, 8);
        Check.due("spare: what is hidden serves the need", two.village(1, 6), 5);
        two.hides(1, 9);
        Check.due("spare: no more than is shown", two.village(1, 6), 3);
        int[][] bad = {{-1, 0}, {3, 0}, {0, -1}, {0, 7}, {LEAST, LEAST}, {MOST, MOST}, {6, 6}};
        for (int[] b : bad) {
            Check.due("village(" + b[0] + ", " + b[1] + ")", x.village(b[0], b[1]), BAD);
        }
    }

    private static void promise6Far() {
        KingPrices x = Check.told("v0 0 0;v0 0 0;v0 0 0;v0 0 0;v0 0 0;r0 1 9;r1 0 4;r0 1 5;r1 2 3;r0 2 8;r4 3 1;");
        int[][] want = {{0, 4, 7, NONE, NONE}, {4, 0, 3, NONE, NONE}, {7, 3, 0, NONE, NONE},
            {NONE, NONE, NONE, 0, 1}, {NONE, NONE, NONE, 1, 0}};
        for (int a = 0; a < 5; a++) {
            for (int b = 0; b < 5; b++) {
                Check.due("far(" + a + ", " + b + ")", x.far(a, b), want[a][b]);
            }
        }
        for (int v : new int[] {-1, 5, 6, LEAST, MOST}) {
            Check.due("far(" + v + ", 0)", x.far(v, 0), BAD);
            Check.due("far(0, " + v + ")", x.far(0, v), BAD);
            Check.due("far(" + v + ", " + v + ")", x.far(v, v), BAD);
        }
        KingPrices line = Check.told(SIX + "r5 0 9;r0 4 9;r4 1 9;r1 3 9;r3 2 9;");
        Check.due("the longest way", line.far(5, 2), 45);
        Check.due("the longest way back", line.far(2, 5), 45);
        Check.due("a part of it", line.far(4, 3), 18);
    }

    private static void promise7Owes() {
        KingPrices x = Check.told("v0 0 0;v0 0 0;v0 0 0;d0 1 1;d0 1 98;d1 0 5;d2 0 99;");
        int[][] want = {{BAD, 99, 0}, {5, BAD, 0}, {99, 0, BAD}};
        for (int a = 0; a < 3; a++) {
            for (int b = 0; b < 3; b++) {
                Check.due("owes(" + a + ", " + b + ")", x.owes(a, b), want[a][b]);
            }
        }
        for (int v : new int[] {-1, 3, 6, LEAST, MOST}) {
            Check.due("owes(" + v + ", 0)", x.owes(v, 0), BAD);
            Check.due("owes(0, " + v + ")", x.owes(0, v), BAD);
        }
        KingPrices ten = Check.told(TWO + "d0 1 99;".repeat(10) + "d0 1 9;");
        Check.due("owed 999", ten.owes(0, 1), 999);
        KingPrices eleven = Check.told(TWO + "d0 1 99;".repeat(11) + "d1 0 2;");
        Check.due("owed 999 at most", eleven.owes(0, 1), 999);
        Check.due("the other way", eleven.owes(1, 0), 2);
    }
}
