import java.util.ArrayList;
import java.util.List;

/** Terms 3 and promises 17 to 20: spare, tours, from which to take, what there was, the odds of hiding. */
final class ToursBounds {
    private static final int BAD = KingPrices.BAD, NONE = KingPrices.NONE;
    private static final int LEAST = Integer.MIN_VALUE, MOST = Integer.MAX_VALUE;
    private static final String FULL_SIX = "v60 0 0;".repeat(6);

    private ToursBounds() {
    }

    static void all() {
        spare();
        spareAtItsEdges();
        tourForDays();
        tourOfNoVillage();
        tourHasJustEnough();
        tourNeverLacks();
        tourNeverLacksOnALaterWay();
        tourTakesSpareAlone();
        tourFewestVillagesFirst();
        tourFewestDaysThen();
        tourByNumbersThen();
        tourFromWhereTheCourtIs();
        tourOfSix();
        tourParts();
        from();
        fromFewestThenLeast();
        had();
        hadBounds();
        odds();
        oddsAtTheirEdges();
        oddsInLeastTerms();
        oddsBounds();
    }

    private static void spare() {
        Doc.terms("SPARE of a VILLAGE: hens that are shown, but not more than by which it HAS (shown, hidden) more than its NEED");
        for (int has = 0; has <= 60; has += 6) {
            for (int hidden = 0; hidden <= has; hidden += 6) {
                for (int need = 0; need <= 60; need++) {
                    for (int charter = 0; charter <= 1; charter++) {
                        KingPrices x = Check.told("v" + has + " " + need + " " + charter + ";");
                        if (hidden > 0) {
                            x.hides(0, hidden);
                        }
                        int most = 0;
                        for (int taken = 1; taken <= has - hidden && charter == 0; taken++) {
                            most = has - taken >= need ? taken : most;
                        }
                        Check.due("spare of " + has + ", hidden " + hidden + ", need " + need, x.village(0, 6), most);
                        Check.due("spare of all", x.now(6), most);
                    }
                }
            }
        }
    }

    private static void spareAtItsEdges() {
        Doc.terms("0 with a CHARTER, 0 at least.");
        Check.due("as many as it needs", Check.told("v9 9 0;").village(0, 6), 0);
        Check.due("one more than it needs", Check.told("v10 9 0;").village(0, 6), 1);
        Check.due("one less than it needs", Check.told("v8 9 0;").village(0, 6), 0);
        Check.due("all, without need", Check.told("v60 0 0;").village(0, 6), 60);
        Check.due("with a charter", Check.told("v60 0 1;").village(0, 6), 0);
        KingPrices x = Check.told("v20 5 0;");
        x.hides(0, 5);
        Check.due("the hidden are the need", x.village(0, 6), 15);
        x.hides(0, 1);
        Check.due("no more than are shown", x.village(0, 6), 14);
        x.shows(0, 2);
        Check.due("no more than are above the need", x.village(0, 6), 15);
        x.takes(16);
        Check.due("below the need", x.village(0, 6), 0);
    }

    /** What is due: days, then the villages; NONE alone, if there is no tour. */
    private static void tour(String text, int d, int... want) {
        tour(Check.told(text), text + " ", d, want);
    }

    private static void tour(KingPrices x, String name, int d, int... want) {
        Check.due(name + "tour(" + d + ", -2)", x.tour(d, -2), want[0]);
        Check.due(name + "tour(" + d + ", -1)", x.tour(d, -1), want[0] == NONE ? NONE : want.length - 1);
        for (int i = 0; i < 6; i++) {
            Check.due(name + "tour(" + d + ", " + i + ")", x.tour(d, i), i + 1 < want.length ? want[i + 1] : NONE);
        }
    }

    private static void tourForDays() {
        Doc.terms("TOUR for d (1 .. 60): of all rows of unlike VILLAGES, GONE to one behind another");
        Doc.promise(17, "BAD (i -2 .. 5).");
        KingPrices x = Check.told("v60 0 0;m1;");
        Check.due("tour(1, -1)", x.tour(1, -1), 1);
        Check.due("tour(60, -1)", x.tour(60, -1), 1);
        for (int wrong : new int[] {0, -1, 61, LEAST, MOST}) {
            Check.due("tour(" + wrong + ", -1)", x.tour(wrong, -1), BAD);
            Check.due("new: tour(" + wrong + ", -1)", new KingPrices().tour(wrong, -1), BAD);
        }
        for (int wrong : new int[] {-3, 6, LEAST, MOST}) {
            Check.due("tour(1, " + wrong + ")", x.tour(1, wrong), BAD);
            Check.due("new: tour(1, " + wrong + ")", new KingPrices().tour(1, wrong), BAD);
        }
        tour("v1 0 0;m1;", 1, 0, 0);
        tour("v1 0 0;m1;", 2, NONE);
        tour("v59 0 0;m1;", 60, NONE);
        tour("v60 0 0;m1;", 60, 0, 0);
    }

    private static void tourOfNoVillage() {
        Doc.terms("(0, if BASKET has so much)");
        for (int mouths = 1; mouths <= 9; mouths++) {
            for (int d = 1; d <= 60 && mouths * d <= 99; d++) {
                String end = "m" + mouths + ";b";
                tour("v1 0 0;" + end + mouths * d + ";", d, 0);
                tour("v1 0 0;" + end + (mouths * d - 1) + ";", d, 0, 0);
            }
        }
        tour("b9;m3;", 3, 0);
        tour("b8;m3;", 3, NONE);
        tour("", 1, NONE);
    }

    private static void tourHasJustEnough() {
        Doc.terms("all that was in the BASKET and is TAKEN is MOUTHS times d or more");
        for (int spare = 1; spare <= 60; spare++) {
            KingPrices x = Check.told("v0 0 0;v" + spare + " 0 0;r0 1 1;m1;b1;");
            Check.due("just enough by " + spare, x.tour(Math.min(60, 1 + spare), -1), 1);
            Check.due("one less than enough by " + spare, x.tour(Math.min(60, 2 + spare), -1), spare + 2 > 60 ? 1 : NONE);
        }
        tour("v0 0 0;v5 0 0;r0 1 5;m1;b5;", 10, 5, 1);
        tour("v0 0 0;v5 0 0;r0 1 5;m1;b5;", 11, NONE);
        tour("v7 0 0;v8 0 0;r0 1 1;m3;b3;", 6, 1, 0, 1);
        tour("v7 0 0;v7 0 0;r0 1 1;m3;b3;", 6, NONE);
    }

    private static void tourNeverLacks() {
        Doc.terms("so that it never lacks anything on the way, and");
        for (int mouths = 1; mouths <= 9; mouths++) {
            for (int days = 1; days <= 9; days++) {
                int due = mouths * days;
                String land = "v0 0 0;v60 0 0;r0 1 " + days + ";m" + mouths + ";b";
                int d = days + 1;
                tour(land + due + ";", d, days, 1);
                tour(land + (due - 1) + ";", d, NONE);
            }
        }
        tour("v1 0 0;v60 0 0;r0 1 3;m2;b5;", 4, 3, 0, 1);
        tour("v1 0 0;v60 0 0;r0 1 3;m2;b4;", 4, NONE);
        tour("v0 0 0;v60 0 0;m2;b4;", 3, NONE);
    }

    private static void tourNeverLacksOnALaterWay() {
        String roads = "r0 1 2;r1 2 4;m3;";
        tour("v0 0 0;v12 0 0;v60 0 0;" + roads + "b6;", 20, 6, 1, 2);
        tour("v0 0 0;v11 0 0;v60 0 0;" + roads + "b6;", 20, NONE);
        tour("v0 0 0;v11 0 0;v60 0 0;" + roads + "b7;", 20, 6, 1, 2);
        tour("v0 0 0;v12 0 0;v60 0 0;" + roads + "b5;", 20, NONE);
        tour("v1 0 0;v12 0 0;v60 0 0;" + roads + "b5;", 20, 6, 0, 1, 2);
    }

    private static void tourTakesSpareAlone() {
        Doc.terms("all SPARE TAKEN in each,");
        tour("v20 10 0;m1;", 10, 0, 0);
        tour("v20 10 0;m1;", 11, NONE);
        tour("v20 0 1;m1;", 1, NONE);
        KingPrices x = Check.told("v20 0 0;m1;");
        x.hides(0, 15);
        tour(x, "hidden: ", 5, 0, 0);
        tour(x, "hidden: ", 6, NONE);
        KingPrices taken = Check.told("v20 10 0;v20 0 0;r0 1 1;m1;");
        taken.takes(15);
        tour(taken, "taken below the need: ", 15, 0);
        tour(taken, "taken below the need: ", 16, 1, 1);
        tour(taken, "taken below the need: ", 35, 1, 1);
        tour(taken, "taken below the need: ", 36, NONE);
    }

    private static void tourFewestVillagesFirst() {
        Doc.terms("that of fewest VILLAGES");
        String roads = "r0 1 1;r1 2 1;r0 3 9;m1;b9;";
        tour("v0 0 0;v10 0 0;v10 0 0;v20 0 0;" + roads, 29, 9, 3);
        tour("v0 0 0;v10 0 0;v10 0 0;v19 0 0;" + roads, 29, 2, 1, 2);
        tour("v0 0 0;v10 0 0;v10 0 0;v19 0 0;" + roads, 28, 9, 3);
    }

    private static void tourFewestDaysThen() {
        Doc.terms("of these of fewest DAYS gone");
        tour("v0 0 0;v9 0 0;v9 0 0;r0 1 4;r0 2 3;m1;b9;", 18, 3, 2);
        tour("v0 0 0;v9 0 0;v9 0 0;r0 1 3;r0 2 4;m1;b9;", 18, 3, 1);
        tour("v0 0 0;v9 0 0;v9 0 0;r0 1 4;r0 2 3;r1 2 9;m1;b9;", 27, 10, 2, 1);
        tour("v0 0 0;v9 0 0;v9 0 0;v9 0 0;r0 1 5;r1 2 1;r0 3 2;r3 2 3;m1;b20;", 38, 5, 3, 2);
    }

    private static void tourByNumbersThen() {
        Doc.terms("then the first (by numbers)");
        tour("v0 0 0;v9 0 0;v9 0 0;r0 1 3;r0 2 3;m1;b9;", 18, 3, 1);
        tour("v0 0 0;v9 0 0;v9 0 0;v9 0 0;r0 1 3;r1 2 3;r1 3 3;m1;b9;", 27, 6, 1, 2);
        tour("v0 0 0;v9 0 0;v9 0 0;v9 0 0;r0 3 3;r3 2 3;r3 1 3;m1;b9;", 27, 6, 3, 1);
        tour("v0 0 0;v9 0 0;v9 0 0;v9 0 0;r0 1 3;r0 2 3;r0 3 3;m1;b9;", 27, 9, 1, 2);
        tour("v0 0 0;v9 0 0;v9 0 0;r0 1 2;r1 2 2;r2 0 2;m1;b9;", 27, 4, 1, 2);
    }

    private static void tourFromWhereTheCourtIs() {
        Doc.terms("from where THE COURT is (first the one itself, or not; no DAYS if it is)");
        KingPrices x = Check.told("v5 0 0;v6 0 0;v5 0 0;r0 2 1;r1 2 2;m1;b20;");
        x.goes(2);
        tour(x, "itself alone: ", 24, 0, 2);
        tour(x, "not itself: ", 25, 2, 1);
        tour(x, "itself first: ", 29, 1, 2, 0);
        tour(x, "itself first: ", 30, 2, 2, 1);
        tour(x, "itself later, for as many days: ", 35, 4, 0, 2, 1);
        KingPrices far = Check.told("v5 0 0;v5 0 0;v5 0 0;r0 1 1;r1 2 1;m1;");
        tour(far, "itself first, with an empty basket: ", 15, 2, 0, 1, 2);
        tour("v0 0 0;v5 0 0;r0 1 1;m1;", 5, NONE);
        tour("v0 0 0;v5 0 0;r0 1 1;m1;b1;", 6, 1, 1);
    }

    private static void tourOfSix() {
        KingPrices x = Check.told(FULL_SIX + "r0 1 1;r1 2 1;r2 3 1;r3 4 1;r4 5 1;m9;b99;");
        tour(x, "six: ", 11, 0);
        tour(x, "six: ", 12, 0, 0);
        tour(x, "six: ", 17, 0, 0);
        tour(x, "six: ", 18, 1, 0, 1);
        tour(x, "six: ", 44, 4, 0, 1, 2, 3, 4);
        tour(x, "six: ", 45, 5, 0, 1, 2, 3, 4, 5);
        tour(x, "six: ", 51, 5, 0, 1, 2, 3, 4, 5);
        tour(x, "six: ", 52, NONE);
    }

    private static void tourParts() {
        Doc.terms("how many; DAYS; the i-th; NONE (there is none; not so many).");
        Doc.promise(17, "`int tour(int d, int i)`: TOUR: how many (i = -1), DAYS (-2), the i-th; NONE.");
        KingPrices x = Check.told("v3 0 0;v4 0 0;r0 1 2;m1;");
        int[] want = {2, 2, 0, 1, NONE, NONE, NONE, NONE};
        for (int i = -2; i <= 5; i++) {
            Check.due("tour(7, " + i + ")", x.tour(7, i), want[i + 2]);
            Check.due("tour(8, " + i + "), there is none", x.tour(8, i), NONE);
        }
        KingPrices zero = Check.told("b3;m3;");
        int[] none = {0, 0, NONE, NONE, NONE, NONE, NONE, NONE};
        for (int i = -2; i <= 5; i++) {
            Check.due("tour(1, " + i + ") of no village", zero.tour(1, i), none[i + 2]);
        }
    }

    private static void from() {
        Doc.terms("FROM for n (0 .. 360):", "whose SPARE is n together, or more; NONE.");
        Doc.promise(18, "`int from(int n)`: FROM, as bits; NONE.", "BAD.");
        KingPrices six = Check.told(FULL_SIX);
        for (int n = 0; n <= 360; n++) {
            int villages = (n + 59) / 60;
            Check.due("from(" + n + ") of six", six.from(n), (1 << villages) - 1);
        }
        for (int wrong : new int[] {-1, 361, LEAST, MOST}) {
            Check.due("from(" + wrong + ")", six.from(wrong), BAD);
            Check.due("new: from(" + wrong + ")", new KingPrices().from(wrong), BAD);
        }
        KingPrices less = Check.told("v60 0 0;".repeat(5) + "v60 1 0;");
        Check.due("just so many", less.from(359), 63);
        Check.due("one more", less.from(360), NONE);
        Check.due("new: from(0)", new KingPrices().from(0), 0);
        Check.due("new: from(1)", new KingPrices().from(1), NONE);
        KingPrices one = Check.told("v9 2 0;v60 0 1;");
        Check.due("one: from(7)", one.from(7), 1);
        Check.due("one: from(8)", one.from(8), NONE);
        one.hides(0, 3);
        Check.due("one, some hidden: from(6)", one.from(6), 1);
        Check.due("one, some hidden: from(7)", one.from(7), NONE);
    }

    private static void fromFewestThenLeast() {
        Doc.terms("the fewest VILLAGES (bits; of as few the least)");
        KingPrices x = Check.told("v5 0 0;v5 0 0;v9 0 0;v10 0 0;v10 0 0;");
        int[][] want = {{0, 0}, {1, 1}, {5, 1}, {6, 4}, {9, 4}, {10, 8}, {11, 5}, {14, 5}, {15, 9}, {16, 12}, {19, 12},
            {20, 24}, {21, 13}, {24, 13}, {25, 25}, {26, 28}, {29, 28}, {30, 27}, {31, 29}, {34, 29}, {35, 31}, {39, 31}, {40, NONE}};
        for (int[] w : want) {
            Check.due("from(" + w[0] + ")", x.from(w[0]), w[1]);
        }
    }

    private static void had() {
        Doc.terms("HAD by t (0 .. 60): how many hens TAKEN once would have been written as t: the least, the most number (1 .. 60); NONE.");
        Doc.promise(19, "`int had(int t, int what)`: HAD: the least (what = 0), the most (1); NONE.");
        for (int writes = 0; writes <= 10; writes++) {
            KingPrices x = Check.told("w" + writes + ";");
            for (int t = 0; t <= 60; t++) {
                List<Integer> fit = new ArrayList<>();
                for (int n = 1; n <= 60; n++) {
                    if (10 * t <= writes * n && writes * n < 10 * t + 10) {
                        fit.add(n);
                    }
                }
                Check.due("had(" + t + ", 0) by " + writes, x.had(t, 0), fit.isEmpty() ? NONE : fit.get(0));
                Check.due("had(" + t + ", 1) by " + writes, x.had(t, 1), fit.isEmpty() ? NONE : fit.get(fit.size() - 1));
            }
        }
    }

    private static void hadBounds() {
        Doc.promise(19, "BAD.");
        KingPrices x = Check.told("w10;");
        Check.due("had(60, 0)", x.had(60, 0), 60);
        Check.due("had(0, 0)", x.had(0, 0), NONE);
        for (int wrong : new int[] {-1, 61, LEAST, MOST}) {
            Check.due("had(" + wrong + ", 0)", x.had(wrong, 0), BAD);
        }
        for (int wrong : new int[] {-1, 2, LEAST, MOST}) {
            Check.due("had(1, " + wrong + ")", x.had(1, wrong), BAD);
            Check.due("had(0, " + wrong + ")", x.had(0, wrong), BAD);
        }
        Check.due("new: had(48, 1)", new KingPrices().had(48, 1), 60);
        Check.due("new: had(49, 1)", new KingPrices().had(49, 1), NONE);
    }

    private static void fraction(KingPrices x, int in10, int n, int upper, int lower) {
        Check.due("odds(" + in10 + ", " + n + ", 0)", x.odds(in10, n, 0), upper);
        Check.due("odds(" + in10 + ", " + n + ", 1)", x.odds(in10, n, 1), lower);
    }

    private static void odds() {
        Doc.terms("ODDS by x (0 .. 10), n (0 .. 360): each VILLAGE hides all it shows by x in 10, for itself: that SPARE of all the others is n or more together: a fraction.");
        Doc.promise(20, "`int odds(int x, int n, int what)`: ODDS: upper (what = 0), lower number (1),");
        KingPrices x = Check.told("v5 0 0;v7 0 0;v60 0 1;");
        for (int in10 = 1; in10 <= 9; in10++) {
            int open = 10 - in10;
            int[][] want = {{0, 100}, {1, 100 - in10 * in10}, {5, 100 - in10 * in10}, {6, 10 * open}, {7, 10 * open},
                {8, open * open}, {12, open * open}, {13, 0}, {360, 0}};
            for (int[] w : want) {
                int upper = x.odds(in10, w[0], 0);
                int lower = x.odds(in10, w[0], 1);
                Check.due("odds(" + in10 + ", " + w[0] + ") of 100", 100L * upper, (long) w[1] * lower);
            }
        }
        KingPrices spare = Check.told("v9 2 0;v9 0 0;");
        spare.hides(1, 4);
        fraction(spare, 1, 7, 9, 10);
        fraction(spare, 1, 8, 81, 100);
        fraction(spare, 1, 12, 81, 100);
        fraction(spare, 1, 13, 0, 1);
    }

    private static void oddsAtTheirEdges() {
        KingPrices x = Check.told("v5 0 0;v7 0 0;");
        fraction(x, 0, 12, 1, 1);
        fraction(x, 0, 13, 0, 1);
        fraction(x, 10, 0, 1, 1);
        fraction(x, 10, 1, 0, 1);
        fraction(x, 9, 1, 19, 100);
        KingPrices six = Check.told(FULL_SIX);
        fraction(six, 1, 360, 531441, 1000000);
        fraction(six, 9, 360, 1, 1000000);
        fraction(six, 9, 301, 1, 1000000);
        fraction(six, 9, 300, 11, 200000);
        fraction(six, 0, 360, 1, 1);
        fraction(new KingPrices(), 5, 0, 1, 1);
        fraction(new KingPrices(), 5, 1, 0, 1);
    }

    private static void oddsInLeastTerms() {
        Doc.promise(20, "in least terms.");
        KingPrices one = Check.told("v1 0 0;");
        int[][] want = {{1, 1}, {9, 10}, {4, 5}, {7, 10}, {3, 5}, {1, 2}, {2, 5}, {3, 10}, {1, 5}, {1, 10}, {0, 1}};
        for (int in10 = 0; in10 <= 10; in10++) {
            fraction(one, in10, 1, want[in10][0], want[in10][1]);
            fraction(one, in10, 0, 1, 1);
            fraction(one, in10, 2, 0, 1);
        }
        fraction(Check.told("v1 0 0;".repeat(6)), 5, 6, 1, 64);
    }

    private static void oddsBounds() {
        Doc.promise(20, "BAD.");
        KingPrices x = Check.told("v5 0 0;");
        for (int wrong : new int[] {-1, LEAST, MOST}) {
            Check.due("odds(" + wrong + ", 0, 0)", x.odds(wrong, 0, 0), BAD);
            Check.due("odds(0, " + wrong + ", 0)", x.odds(0, wrong, 0), BAD);
            Check.due("odds(0, 0, " + wrong + ")", x.odds(0, 0, wrong), BAD);
        }
        Check.due("odds(11, 0, 0)", x.odds(11, 0, 0), BAD);
        Check.due("odds(10, 360, 1)", x.odds(10, 360, 1), 1);
        Check.due("odds(10, 361, 1)", x.odds(10, 361, 1), BAD);
        Check.due("odds(10, 360, 2)", x.odds(10, 360, 2), BAD);
        Check.due("new: odds(11, 0, 0)", new KingPrices().odds(11, 0, 0), BAD);
    }
}
