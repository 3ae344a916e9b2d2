/** What the tests share: a land from a text, and calls held against the answers that are due. */
final class Check {
    private static int wrong;
    private static int made;

    private Check() {
    }

    /** A new object to which the text has been typed. */
    static KingPrices typed(String text) {
        KingPrices x = new KingPrices();
        type(x, text);
        return x;
    }

    static void type(KingPrices x, String text) {
        int ahead = text.isEmpty() ? 0 : x.count(5);
        for (int i = 0; i < text.length(); i++) {
            due("type in \"" + text + "\"", x.type(text.charAt(i)), ahead + i + 1);
        }
    }

    /** A new object that has read the text; that it is without fault is a part of the test. */
    static KingPrices told(String text) {
        KingPrices x = typed(text);
        due("land of \"" + text + "\"", x.land(), items(text));
        return x;
    }

    /** A text that is at fault in this place: nothing changes, and it is still there. */
    static void fault(String text, int place) {
        KingPrices x = typed(text);
        String before = seen(x);
        due("land of \"" + text + "\"", x.land(), -10 - place);
        alike("seen behind the fault of \"" + text + "\"", seen(x), before);
        due("bytes behind the fault of \"" + text + "\"", x.clear(), text.length());
    }

    private static int items(String text) {
        int n = 0;
        for (int i = 0; i < text.length(); i++) {
            if (text.charAt(i) == ';') {
                n++;
            }
        }
        return n;
    }

    /** Village 0 shows 33, hides 7, needs 50, has tally 13 and 2 coins. */
    static KingPrices landOfMarks() {
        KingPrices x = told("v60 50 0;v1 2 1;w10;");
        x.takes(20);
        x.sells(0, 7);
        x.hides(0, 7);
        return x;
    }

    static void due(String call, long got, long want) {
        made++;
        if (got != want) {
            wrong++;
            System.out.println(call + " answered " + got + ", due is " + want);
        }
    }

    /** Calls that change nothing, all that can be seen by them: two alike states have alike rows. */
    static String seen(KingPrices x) {
        StringBuilder row = new StringBuilder();
        for (int what = 0; what < 6; what++) {
            row.append(x.count(what)).append(' ');
        }
        for (int what = 0; what < 7; what++) {
            row.append(x.now(what)).append(' ');
        }
        for (int v = 0; v < x.count(0); v++) {
            for (int what = 0; what < 7; what++) {
                row.append(x.village(v, what)).append(' ');
            }
            for (int w = 0; w < x.count(0); w++) {
                row.append(x.far(v, w)).append(' ').append(x.owes(v, w)).append(' ');
            }
        }
        return row.append(x.trace()).toString();
    }

    /** Only what deeds can change: it takes few of an object's 512 calls. */
    static String brief(KingPrices x) {
        StringBuilder row = new StringBuilder().append(x.count(4));
        for (int what = 0; what < 4; what++) {
            row.append(' ').append(x.now(what));
        }
        for (int v = 0, villages = x.count(0); v < villages; v++) {
            for (int what : new int[] {0, 1, 4, 5}) {
                row.append(' ').append(x.village(v, what));
            }
        }
        return row.toString();
    }

    static void alike(String what, String got, String want) {
        made++;
        if (!got.equals(want)) {
            wrong++;
            System.out.println(what + " is " + got + ", due is " + want);
        }
    }

    static void end() {
        System.out.println(wrong == 0 ? made + " answers, all as due" : wrong + " of " + made + " answers are not as due");
        if (wrong != 0) {
            System.exit(1);
        }
    }
}
