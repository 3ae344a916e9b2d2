/** Terms 2 and promises 8 to 16: the least and the most of what is done, and how much of it may be undone. */
final class CourtBounds {
    private static final int BAD = KingPrices.BAD, STATE = KingPrices.STATE, NONE = KingPrices.NONE;
    private static final int LEAST = Integer.MIN_VALUE, MOST = Integer.MAX_VALUE;
    private static final String LINE = "v0 0 0;".repeat(6) + "r0 1 9;r1 2 9;r2 3 9;r3 4 9;r4 5 9;";

    private CourtBounds() {
    }

    static void all() {
        courtAtFirst();
        goneAndEaten();
        staysAndEats();
        hungerAtMost();
        goes();
        dayAtMostByGoing();
        dayAtMostByStaying();
        stays();
        takenAndWritten();
        takenEachCutForItself();
        takes();
        takesWithoutVillagesOrByCharter();
        basketAndTallyAtMost();
        hides();
        shows();
        pays();
        soldByThirds();
        sells();
        sellsTheMost();
        undo();
        tenAreKnown();
        undoneIsTheLatestOfEach();
        now();
        fed();
        sixthVillageForItself();
    }

    private static void courtAtFirst() {
        Doc.terms("2 THE COURT is in VILLAGE 0 at first (NONE, if there are none). THE DAY is 0.");
        for (int n = 0; n <= 6; n++) {
            KingPrices x = Check.told("v0 0 0;".repeat(n));
            Check.due("court at first, of " + n, x.now(0), n == 0 ? NONE : 0);
            Check.due("day at first", x.now(1), 0);
        }
        KingPrices x = Check.told(LINE);
        x.goes(5);
        Check.type(x, LINE);
        x.land();
        Check.due("court, told anew", x.now(0), 0);
        Check.due("day, told anew", x.now(1), 0);
    }

    private static void goneAndEaten() {
        Doc.terms("GONE to another VILLAGE: FAR DAYS go by; on each it eats MOUTHS of the BASKET, or what is there;",
            "what it lacks is counted");
        for (int mouths = 1; mouths <= 9; mouths++) {
            for (int days = 1; days <= 9; days++) {
                int due = mouths * days;
                for (int basket : new int[] {0, due - 1, due, due + 1, 99}) {
                    KingPrices x = Check.told("v0 0 0;v0 0 0;r0 1 " + days + ";m" + mouths + ";b" + basket + ";");
                    Check.due("goes(1)", x.goes(1), days);
                    Check.due("day", x.now(1), days);
                    Check.due("basket of " + basket + " for " + due, x.now(2), Math.max(0, basket - due));
                    Check.due("hunger of " + basket + " for " + due, x.now(3), Math.max(0, due - basket));
                }
            }
        }
        KingPrices twice = Check.told("v0 0 0;v0 0 0;r0 1 2;m4;b9;");
        twice.goes(1);
        twice.goes(0);
        Check.due("hunger is counted on", twice.now(3), 7);
        twice.goes(1);
        Check.due("hunger is counted on", twice.now(3), 15);
    }

    private static void staysAndEats() {
        Doc.terms("STAYS: one DAY goes by likewise.");
        for (int mouths = 1; mouths <= 9; mouths++) {
            for (int basket : new int[] {0, 1, mouths - 1, mouths, mouths + 1}) {
                KingPrices x = Check.told("v9 0 1;m" + mouths + ";b" + basket + ";");
                Check.due("stays()", x.stays(), 1);
                Check.due("basket of " + basket, x.now(2), Math.max(0, basket - mouths));
                Check.due("hunger of " + basket, x.now(3), Math.max(0, mouths - basket));
                Check.due("court", x.now(0), 0);
            }
        }
    }

    private static void hungerAtMost() {
        Doc.terms("(HUNGER; 9999 at most)");
        int[][] want = {{9997, 1, 9998}, {9998, 1, 9999}, {9999, 1, 9999}, {9989, 9, 9998}, {9990, 9, 9999}, {9991, 9, 9999}};
        for (int[] w : want) {
            KingPrices stays = Check.told("v0 0 0;m" + w[1] + ";");
            Inside.hunger(stays, w[0]);
            stays.stays();
            Check.due("hunger of " + w[0] + " and " + w[1], stays.now(3), w[2]);
            KingPrices goes = Check.told("v0 0 0;v0 0 0;r0 1 9;m1;b" + (9 - w[1]) + ";");
            Inside.hunger(goes, w[0]);
            goes.goes(1);
            Check.due("hunger of " + w[0] + " and " + w[1] + " on the way", goes.now(3), w[2]);
        }
    }

    private static void goes() {
        Doc.promise(8, "`int goes(int v)`: GONE: THE DAY then.", "BAD;", "STATE: it is there, there is no way,");
        KingPrices x = Check.told("v0 0 0;v0 0 0;v0 0 0;r0 1 3;");
        for (int wrong : new int[] {-1, 3, 6, LEAST, MOST}) {
            Check.due("goes(" + wrong + ")", x.goes(wrong), BAD);
        }
        Check.due("goes to where it is", x.goes(0), STATE);
        Check.due("goes where no way is", x.goes(2), STATE);
        Check.due("goes(1)", x.goes(1), 3);
        Check.due("goes to where it is now", x.goes(1), STATE);
        Check.due("goes where no way is", x.goes(2), STATE);
        Check.due("goes(0)", x.goes(0), 6);
        Check.due("goes(5) of six", Check.told(LINE).goes(5), 45);
        Check.due("goes(6) of six", Check.told(LINE).goes(6), BAD);
        Check.due("new: goes(0)", new KingPrices().goes(0), BAD);
    }

    /** On day 990, in village 0, from where it is 9 days to 1, 18 to 2. */
    private static KingPrices onDay990() {
        KingPrices x = Check.told(LINE);
        for (int i = 1; i <= 22; i++) {
            Check.due("goes, to and fro", x.goes(i % 2 == 1 ? 5 : 0), 45 * i);
        }
        return x;
    }

    private static void dayAtMostByGoing() {
        Doc.terms("(THE DAY is 999 at most.)");
        Doc.promise(8, "it would be beyond DAY 999.");
        KingPrices x = onDay990();
        Check.due("goes 18 days", x.goes(2), STATE);
        Check.due("goes to day 999", x.goes(1), 999);
        Check.due("goes on day 999", x.goes(0), STATE);
        Check.due("day", x.now(1), 999);
        KingPrices later = onDay990();
        Check.due("stays()", later.stays(), 991);
        Check.due("goes to day 1000", later.goes(1), STATE);
        Check.due("day", later.now(1), 991);
        Check.due("court", later.now(0), 0);
    }

    private static void dayAtMostByStaying() {
        Doc.promise(9, "it is DAY 999.");
        KingPrices x = onDay990();
        for (int day = 991; day <= 999; day++) {
            Check.due("stays()", x.stays(), day);
        }
        Check.due("stays on day 999", x.stays(), STATE);
        Check.due("stays on day 999 again", x.stays(), STATE);
        Check.due("day", x.now(1), 999);
        Check.due("undo", x.undo(), 9);
        Check.due("stays to day 999 again", x.stays(), 999);
    }

    private static void stays() {
        Doc.promise(9, "`int stays()`: STAYS: THE DAY then.", "STATE: there are no VILLAGES,");
        KingPrices none = Check.told("b9;");
        Check.due("stays without villages", none.stays(), STATE);
        Check.due("new: stays()", new KingPrices().stays(), STATE);
        KingPrices one = Check.told("v0 0 0;");
        Check.due("stays with one village", one.stays(), 1);
        Check.due("stays again", one.stays(), 2);
    }

    private static void takenAndWritten() {
        Doc.terms("TAKEN, where it is: n (1 .. 60) hens that are shown come to the BASKET",
            "on its TALLY comes WRITES times n by 10, cut");
        for (int writes = 0; writes <= 10; writes++) {
            for (int n = 1; n <= 60; n++) {
                KingPrices x = Check.told("v60 0 0;w" + writes + ";b1;");
                int written = (writes * n - writes * n % 10) / 10;
                Check.due("takes(" + n + ") by " + writes, x.takes(n), written);
                Check.due("tally", x.village(0, 4), written);
                Check.due("basket", x.now(2), 1 + n);
                Check.due("shown", x.village(0, 0), 60 - n);
            }
        }
    }

    private static void takenEachCutForItself() {
        KingPrices x = Check.told("v60 0 0;w9;");
        for (int times = 1; times <= 10; times++) {
            Check.due("takes(1)", x.takes(1), 0);
        }
        Check.due("tally of ten times one", x.village(0, 4), 0);
        Check.due("takes(10)", x.takes(10), 9);
        Check.due("tally", x.village(0, 4), 9);
    }

    private static void takes() {
        Doc.promise(10, "`int takes(int n)`: TAKEN: what was written.", "BAD;", "not so many are shown,");
        for (int wrong : new int[] {0, -1, 61, LEAST, MOST}) {
            Check.due("takes(" + wrong + ")", Check.told("v60 0 0;").takes(wrong), BAD);
        }
        Check.due("takes(1)", Check.told("v60 0 0;w10;").takes(1), 1);
        Check.due("takes(60)", Check.told("v60 0 0;w10;").takes(60), 60);
        for (int shown = 0; shown < 60; shown++) {
            KingPrices x = Check.told("v" + shown + " 60 0;w10;");
            Check.due("takes one more than " + shown, x.takes(shown + 1), STATE);
            if (shown > 0) {
                Check.due("takes all " + shown, x.takes(shown), shown);
                Check.due("takes one more", x.takes(1), STATE);
            }
        }
        KingPrices hidden = Check.told("v60 0 0;v60 0 0;w10;");
        hidden.hides(0, 50);
        Check.due("takes what is hidden", hidden.takes(11), STATE);
        Check.due("takes what is shown", hidden.takes(10), 10);
        Check.due("takes what is shown elsewhere", hidden.takes(1), STATE);
    }

    private static void takesWithoutVillagesOrByCharter() {
        Doc.terms("not from a VILLAGE with a CHARTER");
        Doc.promise(10, "STATE: there are no VILLAGES, it has a CHARTER,");
        Check.due("takes(1) without villages", Check.told("b9;").takes(1), STATE);
        Check.due("takes(60) without villages", new KingPrices().takes(60), STATE);
        KingPrices x = Check.told("v60 0 1;v60 0 0;r0 1 1;w10;");
        Check.due("takes(1) by a charter", x.takes(1), STATE);
        x.goes(1);
        Check.due("takes(1) without a charter", x.takes(1), 1);
        x.goes(0);
        Check.due("takes(1) by a charter", x.takes(1), STATE);
    }

    private static void basketAndTallyAtMost() {
        Doc.terms("the BASKET (999 at most)", "cut (999 at most).");
        Doc.promise(10, "BASKET or TALLY would be above 999.");
        for (int n : new int[] {1, 2, 59, 60}) {
            KingPrices full = Check.told("v60 0 0;w10;");
            Inside.basket(full, 1000 - n);
            Check.due("takes to a basket of 1000", full.takes(n), STATE);
            Check.due("basket", full.now(2), 1000 - n);
            Inside.basket(full, 999 - n);
            Check.due("takes to a basket of 999", full.takes(n), n);
            Check.due("basket", full.now(2), 999);
            KingPrices written = Check.told("v60 0 0;w10;");
            Inside.tally(written, 0, 1000 - n);
            Check.due("takes to a tally of 1000", written.takes(n), STATE);
            Check.due("tally", written.village(0, 4), 1000 - n);
            Inside.tally(written, 0, 999 - n);
            Check.due("takes to a tally of 999", written.takes(n), n);
            Check.due("tally", written.village(0, 4), 999);
        }
        KingPrices other = Check.told("v60 0 0;v60 0 0;r0 1 1;w10;");
        other.goes(1);
        Inside.tally(other, 1, 999);
        Check.due("takes, the tally where it is has 999", other.takes(1), STATE);
        Inside.tally(other, 1, 0);
        Inside.tally(other, 0, 999);
        Check.due("takes, the tally elsewhere has 999", other.takes(1), 1);
        KingPrices nothing = Check.told("v60 0 0;w0;");
        Inside.tally(nothing, 0, 999);
        Check.due("takes, and writes nothing on a tally of 999", nothing.takes(60), 0);
    }

    private static void hides() {
        Doc.terms("HIDDEN (shown): n (1 .. 60) of a VILLAGE's hens that were shown (hidden).");
        Doc.promise(11, "`int hides(int v, int n)`: HIDDEN: how many are.", "BAD;", "STATE: not so many are shown.");
        Check.due("hides(0, 1)", Check.told("v60 0 0;").hides(0, 1), 1);
        Check.due("hides(0, 60)", Check.told("v60 0 0;").hides(0, 60), 60);
        for (int wrong : new int[] {0, -1, 61, LEAST, MOST}) {
            Check.due("hides(0, " + wrong + ")", Check.told("v60 0 0;").hides(0, wrong), BAD);
        }
        for (int wrong : new int[] {-1, 1, 6, LEAST, MOST}) {
            Check.due("hides(" + wrong + ", 1)", Check.told("v60 0 0;").hides(wrong, 1), BAD);
        }
        for (int shown = 0; shown < 60; shown++) {
            KingPrices x = Check.told("v0 0 0;v" + shown + " 0 1;");
            Check.due("hides one more than " + shown, x.hides(1, shown + 1), STATE);
            if (shown > 0) {
                Check.due("hides all " + shown, x.hides(1, shown), shown);
                Check.due("shown then", x.village(1, 0), 0);
                Check.due("hides one more", x.hides(1, 1), STATE);
            }
        }
        KingPrices twice = Check.told("v9 0 0;");
        twice.hides(0, 4);
        Check.due("how many are hidden, all told", twice.hides(0, 5), 9);
        Check.due("hides(5, 1) of six", Check.told("v1 0 0;".repeat(6)).hides(5, 1), 1);
        Check.due("hides(6, 1) of six", Check.told("v1 0 0;".repeat(6)).hides(6, 1), BAD);
    }

    private static void shows() {
        Doc.promise(12, "`int shows(int v, int n)`: Shown: how many are.", "BAD;", "STATE: not so many are hidden.");
        for (int hidden = 0; hidden <= 60; hidden++) {
            KingPrices x = Check.told("v0 0 0;v60 0 1;");
            if (hidden > 0) {
                x.hides(1, hidden);
            }
            Check.due("shows one more than " + hidden, x.shows(1, hidden + 1), hidden == 60 ? BAD : STATE);
            if (hidden > 0) {
                Check.due("shows all " + hidden, x.shows(1, hidden), 60);
                Check.due("hidden then", x.village(1, 1), 0);
                Check.due("shows one more", x.shows(1, 1), STATE);
            }
        }
        KingPrices all = Check.told("v60 0 0;");
        all.hides(0, 60);
        for (int wrong : new int[] {0, -1, 61, LEAST, MOST}) {
            Check.due("shows(0, " + wrong + ")", all.shows(0, wrong), BAD);
        }
        for (int wrong : new int[] {-1, 1, 6, LEAST, MOST}) {
            Check.due("shows(" + wrong + ", 1)", all.shows(wrong, 1), BAD);
        }
        Check.due("shows(0, 1)", all.shows(0, 1), 1);
        Check.due("how many are shown, all told", all.shows(0, 5), 6);
        Check.due("shows(0, 54)", all.shows(0, 54), 60);
    }

    private static void pays() {
        Doc.terms("PAID: a VILLAGE's TALLY is 0.");
        Doc.promise(13, "`int pays(int v)`: PAID: what the TALLY was.", "BAD.");
        KingPrices x = Check.told("v60 0 0;v60 0 0;w10;");
        for (int wrong : new int[] {-1, 2, 6, LEAST, MOST}) {
            Check.due("pays(" + wrong + ")", x.pays(wrong), BAD);
        }
        Check.due("pays of nothing", x.pays(0), 0);
        x.takes(1);
        Check.due("pays of one", x.pays(0), 1);
        x.takes(59);
        Check.due("pays of another", x.pays(1), 0);
        Check.due("tally behind that", x.village(0, 4), 59);
        Check.due("pays of all", x.pays(0), 59);
        Check.due("tally then", x.village(0, 4), 0);
        Check.due("pays again", x.pays(0), 0);
        Check.due("each of them may be undone", x.count(4), 7);
        Check.due("pays(5) of six", Check.told(LINE).pays(5), 0);
        Check.due("pays(6) of six", Check.told(LINE).pays(6), BAD);
        Check.due("new: pays(0)", new KingPrices().pays(0), BAD);
    }

    private static void soldByThirds() {
        Doc.terms("SOLD: n (1 .. 99) of a TALLY: it is n less, COINS of that VILLAGE a third of n (cut) more.");
        for (int n = 1; n <= 99; n++) {
            KingPrices x = Check.told("v0 0 0;v0 0 0;");
            Inside.tally(x, 1, 99);
            Check.due("sells(1, " + n + ")", x.sells(1, n), (n - n % 3) / 3);
            Check.due("tally then", x.village(1, 4), 99 - n);
            Check.due("coins", x.village(1, 5), (n - n % 3) / 3);
            Check.due("coins of another", x.village(0, 5), 0);
        }
        KingPrices x = Check.told("v60 0 0;w10;");
        x.takes(60);
        for (int i = 0; i < 3; i++) {
            Check.due("each cut for itself", x.sells(0, 2), 0);
        }
        Check.due("coins then", x.sells(0, 3), 1);
        Check.due("more coins", x.sells(0, 5), 2);
    }

    private static void sells() {
        Doc.promise(14, "`int sells(int v, int n)`: SOLD: COINS then.", "BAD;", "STATE: the TALLY is not so much.");
        KingPrices x = Check.told("v60 0 0;v60 0 0;w10;");
        Check.due("sells of nothing", x.sells(0, 1), STATE);
        x.takes(60);
        for (int wrong : new int[] {0, -1, 100, LEAST, MOST}) {
            Check.due("sells(0, " + wrong + ")", x.sells(0, wrong), BAD);
        }
        for (int wrong : new int[] {-1, 2, 6, LEAST, MOST}) {
            Check.due("sells(" + wrong + ", 1)", x.sells(wrong, 1), BAD);
        }
        Check.due("sells one more than the tally", x.sells(0, 61), STATE);
        Check.due("sells of another", x.sells(1, 1), STATE);
        Check.due("sells all", x.sells(0, 60), 20);
        Check.due("sells one more", x.sells(0, 1), STATE);
        for (int tally = 1; tally < 60; tally++) {
            KingPrices y = Check.told("v60 0 0;w10;");
            y.takes(tally);
            Check.due("sells one more than " + tally, y.sells(0, tally + 1), STATE);
            Check.due("sells all " + tally, y.sells(0, tally), tally / 3);
        }
    }

    private static void sellsTheMost() {
        KingPrices x = Check.told("v0 0 0;");
        Inside.tally(x, 0, 98);
        Check.due("sells(0, 99) of 98", x.sells(0, 99), STATE);
        Inside.tally(x, 0, 999);
        Check.due("sells(0, 100) of 999", x.sells(0, 100), BAD);
        Check.due("sells(0, 99) of 999", x.sells(0, 99), 33);
        Check.due("tally then", x.village(0, 4), 900);
    }

    private static void undo() {
        Doc.promise(15, "`int undo()`: UNDONE: how many more may be.", "STATE: none.");
        KingPrices x = Check.told("v9 0 0;");
        Check.due("undo of nothing", x.undo(), STATE);
        Check.due("new: undo()", new KingPrices().undo(), STATE);
        x.stays();
        Check.due("undo of one", x.undo(), 0);
        Check.due("undo of nothing more", x.undo(), STATE);
        x.stays();
        x.takes(1);
        Check.due("undo of two", x.undo(), 1);
        Check.due("undo of the other", x.undo(), 0);
        Check.due("undo of nothing more", x.undo(), STATE);
        Check.due("day", x.now(1), 0);
    }

    private static void tenAreKnown() {
        Doc.terms("(10 are known, older ones are lost)");
        for (int done : new int[] {1, 9, 10, 11, 12, 25}) {
            KingPrices x = Check.told("v60 0 0;m1;b50;");
            for (int i = 1; i <= done; i++) {
                x.stays();
                Check.due("may be undone behind " + i, x.count(4), Math.min(i, 10));
            }
            int known = Math.min(done, 10);
            for (int left = known - 1; left >= 0; left--) {
                Check.due("undo of " + done, x.undo(), left);
                Check.due("day then", x.now(1), done - known + left);
                Check.due("basket then", x.now(2), 50 - (done - known + left));
            }
            Check.due("older ones are lost", x.undo(), STATE);
            Check.due("day", x.now(1), done - known);
        }
        KingPrices x = Check.told("v60 0 0;");
        for (int i = 0; i < 11; i++) {
            x.stays();
        }
        x.undo();
        x.undo();
        x.stays();
        Check.due("what is lost does not come again", x.count(4), 9);
        for (int left = 8; left >= 0; left--) {
            Check.due("undo", x.undo(), left);
        }
        Check.due("the lost one", x.undo(), STATE);
        Check.due("day", x.now(1), 1);
    }

    private static void undoneIsTheLatestOfEach() {
        Doc.terms("UNDONE: the latest GONE, STAYS, TAKEN, HIDDEN, shown, PAID, SOLD", "all is as ahead of it.");
        Refused.Call[] deeds = {x -> x.goes(1), x -> x.stays(), x -> x.takes(7), x -> x.hides(1, 5), x -> x.shows(0, 3),
            x -> x.pays(0), x -> x.sells(0, 4), x -> x.pays(1)};
        for (int first = 0; first < deeds.length; first++) {
            for (int second = 0; second < deeds.length; second++) {
                KingPrices x = Check.told("v60 0 0;v20 0 0;r0 1 2;w10;b3;");
                x.takes(20);
                x.hides(0, 9);
                String ahead = Check.seen(x);
                Check.due("deed " + first + " is done", deeds[first].on(x) < 0 ? 0 : 1, 1);
                String between = Check.seen(x);
                boolean done = deeds[second].on(x) >= 0;
                if (done) {
                    Check.due("undo of deed " + second, x.undo(), 3);
                }
                Check.alike("seen behind deed " + second + " undone", Check.seen(x), between);
                Check.due("undo of deed " + first, x.undo(), 2);
                Check.alike("seen behind deed " + first + " undone", Check.seen(x), ahead);
            }
        }
    }

    private static void now() {
        Doc.promise(16, "`int now(int what)`: 0 where THE COURT is (NONE), 1 THE DAY, 2 BASKET, 3 HUNGER, 4 FED, 5 TALLIES of all, 6 SPARE of all.",
            "BAD.");
        KingPrices x = Check.told("v60 9 0;v50 0 0;v40 0 1;r0 1 4;w10;m8;b1;");
        x.takes(21);
        x.goes(1);
        x.takes(19);
        int[] want = {1, 4, 19, 10, 2, 40, 61};
        for (int what = 0; what <= 6; what++) {
            Check.due("now(" + what + ")", x.now(what), want[what]);
        }
        for (int wrong : new int[] {-1, 7, LEAST, MOST}) {
            Check.due("now(" + wrong + ")", x.now(wrong), BAD);
            Check.due("new: now(" + wrong + ")", new KingPrices().now(wrong), BAD);
        }
        Check.due("new: now(0)", new KingPrices().now(0), NONE);
        KingPrices six = Check.told("v60 0 0;".repeat(6) + "r0 1 1;r0 2 1;r0 3 1;r0 4 1;r0 5 1;w10;");
        Check.due("spare of all six", six.now(6), 360);
        six.takes(60);
        for (int v = 1; v < 6; v++) {
            six.goes(v);
            six.takes(60);
        }
        Check.due("tallies of all six", six.now(5), 360);
        Check.due("spare of all six, all taken", six.now(6), 0);
    }

    private static void fed() {
        Doc.terms("FED: how many whole DAYS the BASKET is for MOUTHS.");
        for (int mouths = 1; mouths <= 9; mouths++) {
            for (int basket = 0; basket <= 99; basket++) {
                KingPrices x = Check.told("m" + mouths + ";b" + basket + ";");
                Check.due("fed: " + basket + " by " + mouths, x.now(4), (basket - basket % mouths) / mouths);
            }
        }
    }

    /** Each village has all it may have at once, and then none of it is another one's. */
    private static void sixthVillageForItself() {
        String roads = "r0 1 1;r0 2 1;r0 3 1;r0 4 1;r0 5 1;w10;m1;b60;";
        for (int v = 0; v < 6; v++) {
            KingPrices x = Check.told("v60 0 0;".repeat(6) + roads);
            if (v > 0) {
                x.goes(v);
            }
            x.takes(31);
            x.sells(v, 10);
            x.hides(v, 11);
            int[] want = {18, 11, 0, 0, 21, 3, 18};
            int[] marks = {18, 29, 18, 58, 21, 39};
            for (int other = 0; other < 6; other++) {
                for (int what = 0; what <= 6; what++) {
                    int untouched = what == 0 || what == 6 ? 60 : 0;
                    Check.due("of " + v + ": village(" + other + ", " + what + ")", x.village(other, what),
                        other == v ? want[what] : untouched);
                }
                for (int kind = 0; kind <= 5; kind++) {
                    Check.due("of " + v + ": mark(" + kind + ", " + other + ")", x.mark(kind, other),
                        other == v ? marks[kind] : kind == 3 ? 120 : 60);
                }
                Check.due("of " + v + ": pays(" + other + ")", x.pays(other), other == v ? 21 : 0);
            }
        }
    }
}
