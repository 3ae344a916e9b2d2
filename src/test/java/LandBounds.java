/** Terms 1 and promises 1 to 7: the least and the most of what a text tells, and where it is at fault. */
final class LandBounds {
    private static final int BAD = KingPrices.BAD, FULL = KingPrices.FULL, NONE = KingPrices.NONE;
    private static final int LEAST = Integer.MIN_VALUE, MOST = Integer.MAX_VALUE;
    private static final String ONE = "v0 0 0;", TWO = ONE.repeat(2), SIX = ONE.repeat(6);
    /** Each item, each number at its greatest, and no number of it is wrong when it is cut. */
    private static final String EVERY = "v60 60 1;v0 0 0;r0 1 9;d1 0 99;m9;w10;b99;";

    private LandBounds() {
    }

    static void all() {
        manyVillages();
        hensNeedCharter();
        manyRoads();
        roadsBetweenUnlike();
        daysOfRoads();
        shortestRoadCounts();
        debts();
        debtsAddedUp();
        mouthsWritesBasket();
        onceEachAtMost();
        textOf180Bytes();
        blanks();
        everyByteWhereAnItemMayBegin();
        everyByteBehindANumber();
        everyByteBehindALetter();
        everyLetter();
        lettersForNumbers();
        endedBySemicolon();
        toldAhead();
        numbersAbove99();
        zeroAheadOfOthers();
        firstFaultCounts();
        endsTooEarlyAtEachPlace();
        newObject();
        type();
        clear();
        land();
        village();
        far();
        owes();
    }

    /** Held for 0 to 100 in the place of one number: the land that is told, or null where it is at fault. */
    private static KingPrices toldIf(boolean fair, String ahead, int n, String behind) {
        if (fair) {
            return Check.told(ahead + n + behind);
        }
        Check.fault(ahead + n + behind, ahead.length());
        return null;
    }

    private static void manyVillages() {
        Doc.terms("(6 of them at most)", "a seventh village");
        for (int n = 0; n <= 6; n++) {
            KingPrices x = Check.told(ONE.repeat(n));
            Check.due("villages", x.count(0), n);
            Check.due("the last village", x.village(n - 1, 0), n == 0 ? BAD : 0);
            Check.due("the one behind the last", x.village(n, 0), BAD);
        }
        Check.fault(SIX + ONE, 42);
        Check.fault(SIX + "v", 42);
        Check.fault(SIX + "  v61 61 61", 44);
    }

    private static void hensNeedCharter() {
        Doc.terms("HAS (0 .. 60 hens, all shown at first)", "NEED (0 .. 60)", "CHARTER (0, 1)", "v H N C (a village)");
        for (int n = 0; n <= 100; n++) {
            KingPrices has = toldIf(n <= 60, "v", n, " 0 0;");
            if (has != null) {
                Check.due("shown at first", has.village(0, 0), n);
                Check.due("hidden at first", has.village(0, 1), 0);
                Check.due("need beside", has.village(0, 2), 0);
            }
            KingPrices needs = toldIf(n <= 60, "v0 ", n, " 0;");
            if (needs != null) {
                Check.due("need", needs.village(0, 2), n);
                Check.due("shown beside", needs.village(0, 0), 0);
            }
            KingPrices free = toldIf(n <= 1, "v0 0 ", n, ";");
            if (free != null) {
                Check.due("charter", free.village(0, 3), n);
            }
        }
    }

    private static void manyRoads() {
        Doc.terms("ROADS (10 of them at most)", "an eleventh road", "r A B D (told ahead; a road)");
        for (int n = 0; n <= 10; n++) {
            Check.due("roads", Check.told(TWO + "r0 1 2;".repeat(n)).count(1), n);
        }
        Check.fault(TWO + "r0 1 2;".repeat(11), 84);
        Check.fault(TWO + "r0 1 2;".repeat(10) + "r", 84);
        String ring = "r0 1 1;r1 2 1;r2 3 1;r3 4 1;r4 5 1;r5 0 1;r0 2 1;r0 3 1;r0 4 1;r1 3 1;";
        Check.due("roads between others", Check.told(SIX + ring).count(1), 10);
        Check.fault(SIX + ring + "r2 4 1;", 112);
        Check.due("behind ten roads all else may come", Check.told(TWO + "r0 1 2;".repeat(10) + "d0 1 3;m1;").count(1), 10);
    }

    private static void roadsBetweenUnlike() {
        Doc.terms("between two unlike VILLAGES", "B that is A");
        for (int a = 0; a < 6; a++) {
            for (int b = 0; b < 6; b++) {
                if (a == b) {
                    Check.fault(SIX + "r" + a + " " + b + " 1;", 45);
                    Check.fault(SIX + "d" + a + " " + b + " 1;", 45);
                } else {
                    Check.due("far", Check.told(SIX + "r" + a + " " + b + " 1;").far(a, b), 1);
                    Check.due("owes", Check.told(SIX + "d" + a + " " + b + " 1;").owes(a, b), 1);
                }
            }
        }
    }

    private static void daysOfRoads() {
        Doc.terms("DAYS (1 .. 9)");
        for (int n = 0; n <= 100; n++) {
            KingPrices x = toldIf(1 <= n && n <= 9, TWO + "r0 1 ", n, ";");
            if (x != null) {
                Check.due("days", x.far(0, 1), n);
                Check.due("days back", x.far(1, 0), n);
            }
        }
    }

    private static void shortestRoadCounts() {
        Doc.terms("of several between the same two the shortest counts");
        for (int a = 1; a <= 9; a++) {
            for (int b = 1; b <= 9; b++) {
                for (String way : new String[] {"0 1 ", "1 0 "}) {
                    KingPrices x = Check.told(TWO + "r0 1 " + a + ";r" + way + b + ";");
                    Check.due("of " + a + " and " + b, x.far(0, 1), Math.min(a, b));
                    Check.due("of " + a + " and " + b + ", back", x.far(1, 0), Math.min(a, b));
                    Check.due("both are roads", x.count(1), 2);
                }
            }
        }
    }

    private static void debts() {
        Doc.terms("OWES: a VILLAGE owes another one n (1 .. 99;", "d A B N (told ahead; A OWES B)");
        for (int n = 0; n <= 100; n++) {
            KingPrices x = toldIf(1 <= n && n <= 99, TWO + "d0 1 ", n, ";");
            if (x != null) {
                Check.due("owes", x.owes(0, 1), n);
                Check.due("is not owed", x.owes(1, 0), 0);
            }
        }
    }

    private static void debtsAddedUp() {
        Doc.terms("told again: added up, 999 at most)");
        String ten = "d0 1 99;".repeat(10);
        int[][] want = {{8, 998}, {9, 999}, {10, 999}, {99, 999}};
        for (int[] w : want) {
            KingPrices x = Check.told(TWO + ten + "d0 1 " + w[0] + ";d1 0 7;");
            Check.due("990 and " + w[0], x.owes(0, 1), w[1]);
            Check.due("the other way", x.owes(1, 0), 7);
        }
        KingPrices more = Check.told(TWO + ten.repeat(2));
        Check.due("held at 999 when more is told", more.owes(0, 1), 999);
        KingPrices third = Check.told(ONE.repeat(3) + ten + "d0 2 99;d2 1 99;d0 2 1;");
        Check.due("each two for themselves", third.owes(0, 1), 990);
        Check.due("each two for themselves", third.owes(0, 2), 100);
        Check.due("each two for themselves", third.owes(2, 1), 99);
    }

    private static void mouthsWritesBasket() {
        Doc.terms("MOUTHS (1 .. 9 hens a DAY; 3 at first)", "WRITES (0 .. 10 for ten; 8 at first)",
            "BASKET (0 .. 99 hens; 0 at first)", "m N (mouths) ; w N (writes) ; b N (basket)", "a NUMBER beyond what it may be, too)");
        for (int n = 0; n <= 100; n++) {
            KingPrices mouths = toldIf(1 <= n && n <= 9, "m", n, ";");
            Check.due("mouths", mouths == null ? n : mouths.count(2), n);
            KingPrices writes = toldIf(n <= 10, "w", n, ";");
            Check.due("writes", writes == null ? n : writes.count(3), n);
            KingPrices basket = toldIf(n <= 99, "b", n, ";");
            Check.due("basket", basket == null ? n : basket.now(2), n);
        }
        KingPrices x = Check.told("m9;w10;b99;");
        Check.type(x, ONE);
        x.land();
        Check.due("mouths at first, told anew", x.count(2), 3);
        Check.due("writes at first, told anew", x.count(3), 8);
        Check.due("basket at first, told anew", x.now(2), 0);
        Check.due("mouths at first", new KingPrices().count(2), 3);
        Check.due("writes at first", new KingPrices().count(3), 8);
        Check.due("basket at first", new KingPrices().now(2), 0);
    }

    private static void onceEachAtMost() {
        Doc.terms("m, w, b once each at most.", "m, w, b again");
        String[] orders = {"mwb", "mbw", "wmb", "wbm", "bmw", "bwm"};
        for (String order : orders) {
            String once = order.replaceAll("(.)", "$11;");
            KingPrices x = Check.told(once);
            Check.due("mouths", x.count(2), 1);
            Check.due("writes", x.count(3), 1);
            Check.due("basket", x.now(2), 1);
            for (String again : new String[] {"m", "w", "b"}) {
                Check.fault(once + again + "1;", 9);
                Check.fault(once + again + "2;", 9);
                Check.fault(once + " " + again, 10);
            }
            Check.type(x, once);
            Check.due("once more in another text", x.land(), 3);
        }
        for (String letter : new String[] {"m", "w", "b"}) {
            Check.fault(letter + "1;" + letter + "1;", 3);
            Check.fault(letter + "1;" + ONE + letter + "1;", 10);
            KingPrices x = Check.typed(letter + "1;" + letter + "1;");
            x.land();
            x.clear();
            Check.type(x, letter + "1;");
            Check.due("a text at fault does not count", x.land(), 1);
        }
    }

    private static void textOf180Bytes() {
        Doc.terms("They are a text (180 bytes at most), read byte by byte");
        String blanks = " ".repeat(170);
        KingPrices just = Check.typed(ONE + blanks + "m2;");
        Check.due("180 bytes", just.count(5), 180);
        Check.due("the 181st byte", just.type(';'), FULL);
        Check.due("land of 180 bytes", just.land(), 2);
        Check.due("the last number is read", just.count(2), 2);
        KingPrices cut = Check.typed(ONE + blanks + " m2");
        Check.due("; as the 181st byte", cut.type(';'), FULL);
        Check.due("land of a text that is cut", cut.land(), -190);
        Check.due("bytes of a text that is cut", cut.clear(), 180);
        Check.fault(ONE + blanks + " m;", 179);
        Check.fault(ONE + blanks + "  m", 180);
        Check.fault(ONE + blanks + "m2!", 179);
        Check.due("180 blanks", Check.typed(" ".repeat(180)).land(), 0);
        Check.fault("9".repeat(180), 0);
        Check.fault("a".repeat(180), 0);
        Check.fault(";".repeat(180), 0);
        Check.due("items of 180 bytes", Check.told(SIX + "r0 1 2;".repeat(10) + "d0 1 1;".repeat(8) + "m1;w1;b1;   ").count(5), 0);
    }

    private static void blanks() {
        Doc.terms("blanks (32) between TOKENS", "ITEMS, each letters and what is told,");
        String[] alike = {"v7 5 1;m4;", " v7 5 1;m4;", "v7 5 1;m4; ", "v 7 5 1 ; m 4 ; ", "   v   7   5   1   ;   m   4   ;   ",
            "v 7 5 1;m4;", "v7 5 1 ;m4;", "v7 5 1; m4;"};
        for (String text : alike) {
            KingPrices x = Check.told(text);
            Check.due("shown of \"" + text + "\"", x.village(0, 0), 7);
            Check.due("need of \"" + text + "\"", x.village(0, 2), 5);
            Check.due("charter of \"" + text + "\"", x.village(0, 3), 1);
            Check.due("mouths of \"" + text + "\"", x.count(2), 4);
        }
        Check.fault("v45 1;", 5);
        Check.fault("v451;", 1);
        Check.fault("b9 9;", 3);
        Check.due("blanks alone", Check.told("   ").count(0), 0);
        Check.due("no byte at all", Check.told("").count(0), 0);
    }

    private static void everyByteWhereAnItemMayBegin() {
        Doc.terms("of a byte that begins none,", "that TOKEN's", "letters that begin no ITEM");
        for (int c = 0; c < 256; c++) {
            boolean begins = "vrdmwb".indexOf(c) >= 0;
            String[] ahead = {"", "  ", "v1 1 0;", "v1 1 0; "};
            for (String text : ahead) {
                if (c == ' ') {
                    Check.due("a blank more", Check.typed(text + " ").land(), text.contains("v") ? 1 : 0);
                } else {
                    Check.fault(text + (char) c, text.length() + (begins ? 1 : 0));
                }
            }
        }
    }

    private static void everyByteBehindANumber() {
        Doc.terms("NUMBERS and ; .");
        for (int c = 0; c < 256; c++) {
            String text = "b9" + (char) c;
            if (c == ';') {
                Check.due("basket", Check.told(text).now(2), 9);
            } else if (c == ' ') {
                Check.fault(text, 3);
            } else if ('0' <= c && c <= '9') {
                Check.fault(text, 3);
                Check.due("basket", Check.told(text + ";").now(2), 90 + c - '0');
            } else {
                Check.fault(text, 2);
                Check.fault("b9 " + (char) c + ";", 3);
            }
        }
    }

    private static void everyByteBehindALetter() {
        for (int c = 0; c < 256; c++) {
            String text = "m" + (char) c;
            if ('a' <= c && c <= 'z') {
                Check.fault(text, 0);
                Check.fault("m " + (char) c, 2);
            } else if (c == ' ') {
                Check.fault(text, 2);
            } else if ('1' <= c && c <= '9') {
                Check.fault(text, 2);
                Check.due("mouths", Check.told(text + ";").count(2), c - '0');
            } else {
                Check.fault(text, 1);
                Check.fault("m " + (char) c, 2);
            }
        }
    }

    private static void everyLetter() {
        Doc.terms("TOKENS are letters a .. z side by side");
        for (char a = 'a'; a <= 'z'; a++) {
            for (char b = 'a'; b <= 'z'; b++) {
                Check.fault("" + a + b, 0);
            }
            boolean begins = "vrdmwb".indexOf(a) >= 0;
            Check.fault(a + " ", begins ? 2 : 0);
            Check.fault("v1 1 " + a + ";", 5);
            Check.fault("m1 " + a + ";", 3);
        }
    }

    /** A byte's number is no NUMBER, nor is a NUMBER a letter: 98 is not b, and c is not 99. */
    private static void lettersForNumbers() {
        for (char a = 'a'; a <= 'z'; a++) {
            Check.fault("b " + a + ";", 2);
            Check.fault("v " + a + " 0 0;", 2);
            Check.fault(TWO + "d0 1 " + a + ";", 19);
            Check.fault(TWO + "r " + a + " 1 1;", 16);
        }
        for (int n = 0; n <= 99; n++) {
            Check.fault(n + " 5;", 0);
            Check.fault("m1;" + n + " 5;", 3);
        }
    }

    private static void endedBySemicolon() {
        Doc.terms("ended by ; :");
        Check.fault("m1 w1;", 3);
        Check.fault("m1w1;", 2);
        Check.fault("m1 1;", 3);
        Check.fault("m1;;", 3);
        Check.fault(";", 0);
        Check.fault("m;", 1);
        Check.fault("v;", 1);
        Check.fault("v0;", 2);
        Check.fault("v0 0;", 4);
        Check.fault("v0 0 0 0;", 7);
        Check.fault("v0 0 0 v0 0 0;", 7);
        Check.fault(TWO + "r;", 15);
        Check.fault(TWO + "r0;", 16);
        Check.fault(TWO + "r0 1;", 18);
        Check.fault(TWO + "r0 1 1 1;", 21);
        Check.fault(TWO + "d;", 15);
        Check.fault(TWO + "d0;", 16);
        Check.fault(TWO + "d0 1;", 18);
        Check.fault(TWO + "d0 1 1 1;", 21);
    }

    private static void toldAhead() {
        for (String letter : new String[] {"r", "d"}) {
            for (int n = 2; n <= 6; n++) {
                String villages = ONE.repeat(n);
                Check.told(villages + letter + (n - 1) + " 0 1;" + letter + "0 " + (n - 1) + " 1;");
                Check.fault(villages + letter + n + " 0 1;", villages.length() + 1);
                Check.fault(villages + letter + "0 " + n + " 1;", villages.length() + 3);
                Check.fault(villages + letter + "99 0 1;", villages.length() + 1);
            }
            Check.fault(letter + "0 1 1;" + TWO, 1);
            Check.fault(ONE + letter + "0 1 1;" + ONE, 10);
            Check.fault(ONE + letter + "1 0 1;" + ONE, 8);
            Check.told(ONE + "m1;" + ONE + letter + "0 1 1;" + ONE + letter + "2 0 1;");
        }
        KingPrices x = Check.told(SIX);
        Check.type(x, ONE + "r0 1 1;");
        Check.due("villages of an older text are not told ahead", x.land(), -20);
    }

    private static void numbersAbove99() {
        Doc.terms("a NUMBER above 99");
        Check.due("basket", Check.told("b99;").now(2), 99);
        String[] above = {"100", "101", "109", "110", "199", "999", "1000", "2147483647", "2147483648", "4294967296", "4294967297",
            "4294967305", "9223372036854775808", "18446744073709551616", "18446744073709551617", "9".repeat(150)};
        for (String n : above) {
            Check.fault("b" + n + ";", 1);
            Check.fault("b " + n, 2);
            Check.fault("m1 " + n + ";", 3);
            Check.fault(n, 0);
            Check.fault("v" + n + " 0 0;", 1);
        }
        Check.fault(TWO + "d0 1 100;", 19);
        Check.fault("m1" + "0".repeat(100) + ";", 1);
        Check.fault("w1" + "0".repeat(32) + ";", 1);
    }

    private static void zeroAheadOfOthers() {
        Doc.terms("or with a 0 ahead of others");
        Check.due("0 alone", Check.told("b0;").now(2), 0);
        Check.due("0 behind", Check.told("b10;").now(2), 10);
        for (int n = 0; n <= 100; n++) {
            Check.fault("b0" + n + ";", 1);
            Check.fault("m1;b 00" + n, 5);
        }
        Check.fault("v00 0 0;", 1);
        Check.fault("v0 00 0;", 3);
        Check.fault("v0 0 00;", 5);
        Check.fault("v0 0 01;", 5);
        Check.fault(TWO + "r00 1 1;", 15);
        Check.fault(TWO + "r0 01 1;", 17);
        Check.fault(TWO + "r0 1 01;", 19);
        Check.fault(TWO + "d0 1 09;", 19);
        Check.fault("m1 01;", 3);
        Check.fault("01", 0);
    }

    private static void firstFaultCounts() {
        Doc.terms("FAULT: the place of the first byte of the first TOKEN that can't stand there");
        Check.fault("v61 61 2!", 1);
        Check.fault("v60 61 2!", 4);
        Check.fault("v60 60 2!", 7);
        Check.fault("v60 60 1!", 8);
        Check.fault("v60 60 1;!", 9);
        Check.fault("v60 60 1;mm;!", 9);
        Check.fault("! v61", 0);
        Check.fault(TWO + "r2 2 0;", 15);
        Check.fault(TWO + "r1 1 0;", 17);
        Check.fault(TWO + "r1 0 0!", 19);
        Check.fault("m0;m0;", 1);
        Check.fault("m1;m0;", 3);
        Check.fault("  m  10  ;", 5);
        Check.fault("m 100 w 100", 2);
    }

    private static void endsTooEarlyAtEachPlace() {
        Doc.terms("the text's length, if it ends too early.");
        int items = 0;
        for (int length = 0; length <= EVERY.length(); length++) {
            String cut = EVERY.substring(0, length);
            if (length == 0 || cut.endsWith(";")) {
                Check.due("land of \"" + cut + "\"", Check.typed(cut).land(), items++);
                Check.due("land of \"" + cut + " \"", Check.typed(cut + " ").land(), items - 1);
            } else {
                Check.fault(cut, length);
                Check.fault(cut + " ", length + 1);
                Check.fault(cut + "     ", length + 5);
            }
        }
        Check.due("items of all", items - 1, 7);
    }

    private static void newObject() {
        Doc.promise(1, "`KingPrices()`: As told; no VILLAGES.");
        KingPrices x = new KingPrices();
        int[] counts = {0, 0, 3, 8, 0, 0};
        for (int what = 0; what < counts.length; what++) {
            Check.due("new: count(" + what + ")", x.count(what), counts[what]);
        }
        int[] now = {NONE, 0, 0, 0, 0, 0, 0};
        for (int what = 0; what < now.length; what++) {
            Check.due("new: now(" + what + ")", x.now(what), now[what]);
        }
        Check.due("new: village(0, 0)", x.village(0, 0), BAD);
        Check.due("new: trace()", x.trace(), 0);
        Check.due("new: undo()", x.undo(), KingPrices.STATE);
        Check.due("new: back(0)", x.back(0), KingPrices.STATE);
        Check.due("new: back(1)", x.back(1), KingPrices.STATE);
        Check.alike("new, as if nothing had been told", Check.seen(x), Check.seen(Check.told("")));
        KingPrices other = Check.told(EVERY);
        other.stays();
        Check.alike("new beside another", Check.seen(new KingPrices()), Check.seen(x));
    }

    private static void type() {
        Doc.promise(2, "`int type(int c)`: A byte (0 .. 255) comes to THE TEXT: how many it has.", "BAD; FULL.");
        for (int c : new int[] {0, 1, 127, 128, 254, 255}) {
            Check.due("type(" + c + ")", new KingPrices().type(c), 1);
        }
        for (int c : new int[] {-1, 256, LEAST, MOST, 'v' + 256, 'v' - 256}) {
            KingPrices x = Check.typed("m");
            Check.due("type(" + c + ")", x.type(c), BAD);
            Check.due("bytes behind it", x.count(5), 1);
            Check.type(x, "7;");
            Check.due("land behind it", x.land(), 1);
        }
        KingPrices x = new KingPrices();
        for (int n = 1; n <= 180; n++) {
            Check.due("type, the " + n + "th", x.type(' '), n);
        }
        Check.due("type, the 181st", x.type(' '), FULL);
        Check.due("type, the 182nd", x.type('v'), FULL);
        Check.due("type, wrong and full", x.type(256), BAD);
        Check.due("type, wrong and full", x.type(-1), BAD);
        Check.due("bytes", x.count(5), 180);
        Check.due("land", x.land(), 0);
        Check.due("type behind land", x.type(' '), 1);
    }

    private static void clear() {
        Doc.promise(3, "`int clear()`: THE TEXT is empty: how many bytes it had.");
        Check.due("clear of nothing", new KingPrices().clear(), 0);
        for (int n : new int[] {1, 2, 179, 180}) {
            KingPrices x = Check.typed("m".repeat(n));
            Check.due("clear of " + n, x.clear(), n);
            Check.due("bytes then", x.count(5), 0);
            Check.due("clear again", x.clear(), 0);
            Check.due("type then", x.type('m'), 1);
            Check.type(x, "5;");
            Check.due("land of what came later", x.land(), 1);
            Check.due("mouths", x.count(2), 5);
        }
        KingPrices land = Check.told(EVERY);
        String before = Check.seen(land);
        Check.type(land, "abc");
        land.clear();
        Check.alike("the land behind clear", Check.seen(land), before);
    }

    private static void land() {
        Doc.promise(4, "`int land()`: THE TEXT tells all, and is empty then: how many ITEMS.", "-10 less FAULT: nothing changes.");
        KingPrices x = Check.typed(EVERY);
        Check.due("land()", x.land(), 7);
        Check.due("bytes then", x.count(5), 0);
        Check.due("land of the empty text", x.land(), 0);
        Check.due("villages then", x.count(0), 0);
        Check.due("court then", x.now(0), NONE);
        Check.fault("!", 0);
        KingPrices kept = Check.told(EVERY);
        Check.type(kept, "m1;w1;b1;v1 1 0;v2 2 0;v3 3 0;r0 1 3;d0 1 3");
        String before = Check.seen(kept);
        Check.due("land of a text that ends too early", kept.land(), -53);
        Check.alike("nothing changes", Check.seen(kept), before);
        Check.due("the same text again", kept.land(), -53);
        kept.type(';');
        Check.due("the text was there to go on with", kept.land(), 8);
        Check.due("villages", kept.count(0), 3);
    }

    private static void village() {
        Doc.promise(5, "`int village(int v, int what)`: Of a VILLAGE: 0 hens shown, 1 hidden, 2 NEED, 3 CHARTER, 4 TALLY, 5 COINS, 6 SPARE.",
            "BAD.");
        KingPrices x = Check.told("v50 3 0;v40 1 1;w10;");
        x.takes(20);
        x.sells(0, 7);
        x.hides(0, 4);
        x.hides(1, 9);
        int[][] want = {{26, 4, 3, 0, 13, 2, 26}, {31, 9, 1, 1, 0, 0, 0}};
        for (int v = 0; v < 2; v++) {
            for (int what = 0; what <= 6; what++) {
                Check.due("village(" + v + ", " + what + ")", x.village(v, what), want[v][what]);
            }
        }
        for (int wrong : new int[] {-1, LEAST, MOST}) {
            Check.due("village(" + wrong + ", 0)", x.village(wrong, 0), BAD);
            Check.due("village(0, " + wrong + ")", x.village(0, wrong), BAD);
        }
        Check.due("village(2, 0)", x.village(2, 0), BAD);
        Check.due("village(0, 7)", x.village(0, 7), BAD);
        Check.due("village(5, 0) of six", Check.told(SIX).village(5, 0), 0);
        Check.due("village(6, 0) of six", Check.told(SIX).village(6, 0), BAD);
    }

    private static void far() {
        Doc.terms("FAR: DAYS of the shortest way by ROADS.");
        Doc.promise(6, "`int far(int a, int b)`: FAR; NONE.", "BAD.");
        KingPrices x = Check.told(ONE.repeat(5) + "r0 1 9;r0 2 4;r2 1 4;r3 4 9;");
        Check.due("over another, if it is shorter", x.far(0, 1), 8);
        Check.due("back", x.far(1, 0), 8);
        Check.due("by the road, if that is as short", Check.told(ONE.repeat(3) + "r0 1 8;r0 2 4;r2 1 4;").far(0, 1), 8);
        Check.due("by the road, if that is shorter", Check.told(ONE.repeat(3) + "r0 1 7;r0 2 4;r2 1 4;").far(0, 1), 7);
        Check.due("to itself", x.far(0, 0), 0);
        Check.due("to itself", x.far(4, 4), 0);
        Check.due("no way", x.far(0, 3), NONE);
        Check.due("no way back", x.far(3, 0), NONE);
        Check.due("no road at all", Check.told(TWO).far(0, 1), NONE);
        Check.due("no road at all, to itself", Check.told(TWO).far(1, 1), 0);
        Check.due("the longest way", Check.told(SIX + "r0 5 9;r5 1 9;r1 4 9;r4 2 9;r2 3 9;").far(0, 3), 45);
        for (int wrong : new int[] {-1, 5, 6, LEAST, MOST}) {
            Check.due("far(" + wrong + ", 0)", x.far(wrong, 0), BAD);
            Check.due("far(0, " + wrong + ")", x.far(0, wrong), BAD);
            Check.due("far(" + wrong + ", " + wrong + ")", x.far(wrong, wrong), BAD);
        }
        Check.due("new: far(0, 0)", new KingPrices().far(0, 0), BAD);
        Check.due("far(5, 0) of six", Check.told(SIX).far(5, 0), NONE);
    }

    private static void owes() {
        Doc.promise(7, "`int owes(int a, int b)`: What A OWES B.", "BAD (alike ones, too).");
        KingPrices x = Check.told(ONE.repeat(3) + "d0 1 5;d2 1 99;");
        int[][] want = {{BAD, 5, 0}, {0, BAD, 0}, {0, 99, BAD}};
        for (int a = 0; a < 3; a++) {
            for (int b = 0; b < 3; b++) {
                Check.due("owes(" + a + ", " + b + ")", x.owes(a, b), want[a][b]);
            }
        }
        for (int wrong : new int[] {-1, 3, 6, LEAST, MOST}) {
            Check.due("owes(" + wrong + ", 0)", x.owes(wrong, 0), BAD);
            Check.due("owes(0, " + wrong + ")", x.owes(0, wrong), BAD);
            Check.due("owes(" + wrong + ", " + wrong + ")", x.owes(wrong, wrong), BAD);
        }
        Check.due("owes(5, 4) of six", Check.told(SIX).owes(5, 4), 0);
        Check.due("new: owes(0, 1)", new KingPrices().owes(0, 1), BAD);
    }
}
