/**
 * "Refused, and nothing changes, the first of these": every call that is refused, in every state that refuses it, with
 * all that may be behind it; and what is asked changes nothing either.
 */
final class RefusedBounds {
    private static final int BAD = KingPrices.BAD, STATE = KingPrices.STATE, FULL = KingPrices.FULL, NO = KingPrices.NO;
    private static final int[] FAR_OFF = {-1, 100, Integer.MIN_VALUE, Integer.MAX_VALUE};
    private static final String LINE = "v9 0 0;v9 0 1;" + "v0 0 0;".repeat(4) + "r0 1 9;r1 2 9;r2 3 9;r3 4 9;r4 5 9;w10;";

    private static final Refused.Start MIDWAY = RefusedBounds::midway;
    private static final Refused.Start EMPTY = RefusedBounds::empty;
    private static final Refused.Start NEW = KingPrices::new;
    private static final Refused.Start BY_CHARTER = RefusedBounds::byCharter;
    private static final Refused.Start ON_DAY_999 = RefusedBounds::onDay999;
    private static final Refused.Start FULL_TEXT = RefusedBounds::fullText;

    private RefusedBounds() {
    }

    static void all() {
        Doc.terms("Refused, and nothing changes, the first of these: BAD (a number is not as told, or there is no such thing), STATE (as told), FULL.");
        badChangesNothing();
        badOfImagesAndKinds();
        stateChangesNothing();
        stateWithoutVillages();
        stateByCharter();
        stateOnDay999();
        fullChangesNothing();
        faultChangesNothing();
        badAheadOfState();
        badAheadOfStateWithoutVillages();
        badAheadOfFull();
        whatIsAskedChangesNothing();
    }

    /** Ten deeds to undo, others lost, both images kept, half a text, a trace; the court is in 0. */
    private static KingPrices midway() {
        KingPrices x = Check.told("v60 5 0;v40 0 0;v30 9 1;v20 0 0;r0 1 2;r1 2 1;d0 1 7;d1 0 3;w9;m2;b50;");
        x.takes(20);
        x.sells(0, 6);
        x.hides(0, 10);
        x.goes(1);
        x.keep(0);
        x.takes(10);
        x.hides(1, 5);
        x.shows(1, 2);
        x.stays();
        x.keep(1);
        x.pays(1);
        x.goes(0);
        x.takes(5);
        x.stays();
        x.hides(1, 1);
        x.shows(0, 3);
        x.mark(3, 0);
        Check.type(x, "v1 1 0;m5;");
        return x;
    }

    private static KingPrices empty() {
        KingPrices x = Check.told("b9;m2;");
        x.keep(1);
        Check.type(x, "v1 1 0;");
        return x;
    }

    private static KingPrices byCharter() {
        KingPrices x = Check.told("v60 0 0;v30 0 1;r0 1 1;b9;w10;");
        x.takes(9);
        x.goes(1);
        x.keep(0);
        return x;
    }

    private static KingPrices onDay999() {
        KingPrices x = Check.told(LINE);
        x.takes(9);
        for (int i = 0; i < 22; i++) {
            x.goes(i % 2 == 0 ? 5 : 0);
        }
        x.keep(0);
        x.goes(1);
        x.keep(1);
        return x;
    }

    private static KingPrices fullText() {
        KingPrices x = Check.told("v9 1 0;");
        x.stays();
        Check.type(x, "v8 0 0;" + " ".repeat(173));
        return x;
    }

    private static void bad(String name, Refused.Start start, Refused.Call call) {
        Refused.call(name, start, call, BAD);
    }

    private static void state(String name, Refused.Start start, Refused.Call call) {
        Refused.call(name, start, call, STATE);
    }

    private static void badChangesNothing() {
        for (int n : FAR_OFF) {
            bad("goes(" + n + ")", MIDWAY, x -> x.goes(n));
            bad("takes(" + n + ")", MIDWAY, x -> x.takes(n));
            bad("hides(0, " + n + ")", MIDWAY, x -> x.hides(0, n));
            bad("hides(" + n + ", 1)", MIDWAY, x -> x.hides(n, 1));
            bad("shows(0, " + n + ")", MIDWAY, x -> x.shows(0, n));
            bad("shows(" + n + ", 1)", MIDWAY, x -> x.shows(n, 1));
            bad("pays(" + n + ")", MIDWAY, x -> x.pays(n));
            bad("sells(0, " + n + ")", MIDWAY, x -> x.sells(0, n));
            bad("sells(" + n + ", 1)", MIDWAY, x -> x.sells(n, 1));
        }
        bad("goes(4)", MIDWAY, x -> x.goes(4));
        bad("takes(0)", MIDWAY, x -> x.takes(0));
        bad("takes(61)", MIDWAY, x -> x.takes(61));
        bad("hides(4, 1)", MIDWAY, x -> x.hides(4, 1));
        bad("hides(0, 0)", MIDWAY, x -> x.hides(0, 0));
        bad("hides(0, 61)", MIDWAY, x -> x.hides(0, 61));
        bad("shows(4, 1)", MIDWAY, x -> x.shows(4, 1));
        bad("shows(0, 0)", MIDWAY, x -> x.shows(0, 0));
        bad("shows(0, 61)", MIDWAY, x -> x.shows(0, 61));
        bad("pays(4)", MIDWAY, x -> x.pays(4));
        bad("sells(4, 1)", MIDWAY, x -> x.sells(4, 1));
        bad("sells(0, 0)", MIDWAY, x -> x.sells(0, 0));
        bad("sells(0, 100)", MIDWAY, x -> x.sells(0, 100));
    }

    private static void badOfImagesAndKinds() {
        for (int n : new int[] {-1, 2, Integer.MIN_VALUE, Integer.MAX_VALUE}) {
            bad("keep(" + n + ")", MIDWAY, x -> x.keep(n));
            bad("back(" + n + ")", MIDWAY, x -> x.back(n));
        }
        for (int n : new int[] {-1, 6, Integer.MIN_VALUE, Integer.MAX_VALUE}) {
            Refused.call("mark(" + n + ", 0)", MIDWAY, x -> x.mark(n, 0), NO);
            Refused.call("mark(0, " + n + ")", MIDWAY, x -> x.mark(0, n), NO);
            Refused.call("net(" + n + ")", MIDWAY, x -> x.net(n), NO);
        }
        for (int n : new int[] {-1, 256, Integer.MIN_VALUE, Integer.MAX_VALUE}) {
            bad("type(" + n + ")", MIDWAY, x -> x.type(n));
        }
    }

    private static void stateChangesNothing() {
        state("goes to where it is", MIDWAY, x -> x.goes(0));
        state("goes where no way is", MIDWAY, x -> x.goes(3));
        state("takes more than are shown", MIDWAY, x -> x.takes(29));
        state("hides more than are shown", MIDWAY, x -> x.hides(0, 29));
        state("shows more than are hidden", MIDWAY, x -> x.shows(0, 8));
        state("sells more than the tally", MIDWAY, x -> x.sells(0, 17));
        state("sells of a tally that was paid", MIDWAY, x -> x.sells(1, 1));
        Check.due("takes all that are shown", midway().takes(28), 25);
        Check.due("hides all that are shown", midway().hides(0, 28), 35);
        Check.due("shows all that are hidden", midway().shows(0, 7), 35);
        Check.due("sells all the tally", midway().sells(0, 16), 7);
    }

    private static void stateWithoutVillages() {
        for (Refused.Start start : new Refused.Start[] {EMPTY, NEW}) {
            state("stays without villages", start, x -> x.stays());
            state("takes without villages", start, x -> x.takes(1));
            state("undo of nothing", start, x -> x.undo());
            state("back, none kept", start, x -> x.back(0));
        }
    }

    private static void stateByCharter() {
        state("takes(1) by a charter", BY_CHARTER, x -> x.takes(1));
        state("takes(60) by a charter", BY_CHARTER, x -> x.takes(60));
        state("back, none kept", BY_CHARTER, x -> x.back(1));
    }

    private static void stateOnDay999() {
        state("stays on day 999", ON_DAY_999, x -> x.stays());
        state("goes on day 999", ON_DAY_999, x -> x.goes(0));
        state("goes to where it is on day 999", ON_DAY_999, x -> x.goes(1));
    }

    private static void fullChangesNothing() {
        for (int c : new int[] {0, 'v', ' ', ';', 255}) {
            Refused.call("type(" + c + ") when full", FULL_TEXT, x -> x.type(c), FULL);
        }
        KingPrices x = fullText();
        x.clear();
        Check.due("not full any more", x.type(0), 1);
    }

    private static void faultChangesNothing() {
        String[] texts = {"v", "v61 0 0;", "v1 1 0;v2 2 0;r0 1 1;d0 1 1;m1;w1;b1;!", "v1 1 0;v2 2 0;r0 1 1;d0 1 1;m1;w1;b1;v"};
        for (String text : texts) {
            Refused.Start start = () -> {
                KingPrices x = midway();
                x.clear();
                Check.type(x, text);
                return x;
            };
            int place = text.length() < 9 ? 1 : text.length() - (text.endsWith("!") ? 1 : 0);
            Refused.call("land at fault by " + text, start, x -> x.land(), -10 - place);
        }
    }

    private static void badAheadOfState() {
        bad("goes(6) on day 999", ON_DAY_999, x -> x.goes(6));
        bad("goes(-1) on day 999", ON_DAY_999, x -> x.goes(-1));
        bad("takes(61), not so many are shown", MIDWAY, x -> x.takes(61));
        bad("takes(61) by a charter", BY_CHARTER, x -> x.takes(61));
        bad("takes(0) by a charter", BY_CHARTER, x -> x.takes(0));
        bad("hides(0, 61), not so many are shown", ON_DAY_999, x -> x.hides(0, 61));
        bad("hides(6, 60), not so many are anywhere", ON_DAY_999, x -> x.hides(6, 60));
        bad("shows(0, 61), not so many are hidden", ON_DAY_999, x -> x.shows(0, 61));
        bad("shows(6, 60), not so many are anywhere", ON_DAY_999, x -> x.shows(6, 60));
        bad("sells(0, 100), the tally is not so much", ON_DAY_999, x -> x.sells(0, 100));
        bad("sells(6, 99), no tally is so much", ON_DAY_999, x -> x.sells(6, 99));
        state("sells(0, 99), the tally is not so much", ON_DAY_999, x -> x.sells(0, 99));
        state("hides(0, 60), not so many are shown", ON_DAY_999, x -> x.hides(0, 60));
        state("shows(0, 60), not so many are hidden", ON_DAY_999, x -> x.shows(0, 60));
    }

    private static void badAheadOfStateWithoutVillages() {
        for (Refused.Start start : new Refused.Start[] {EMPTY, NEW}) {
            bad("goes(0) without villages", start, x -> x.goes(0));
            bad("takes(0) without villages", start, x -> x.takes(0));
            bad("takes(61) without villages", start, x -> x.takes(61));
            bad("hides(0, 1) without villages", start, x -> x.hides(0, 1));
            bad("shows(0, 1) without villages", start, x -> x.shows(0, 1));
            bad("pays(0) without villages", start, x -> x.pays(0));
            bad("sells(0, 1) without villages", start, x -> x.sells(0, 1));
            bad("back(2), none kept", start, x -> x.back(2));
            bad("back(-1), none kept", start, x -> x.back(-1));
        }
    }

    private static void badAheadOfFull() {
        for (int c : new int[] {-1, 256, Integer.MIN_VALUE, Integer.MAX_VALUE}) {
            bad("type(" + c + ") when full", FULL_TEXT, x -> x.type(c));
        }
    }

    private static void whatIsAskedChangesNothing() {
        Doc.terms("3 (Nothing is changed.)");
        asked("village", x -> x.village(0, 6));
        asked("far", x -> x.far(0, 2));
        asked("owes", x -> x.owes(0, 1));
        asked("now", x -> x.now(6));
        asked("count", x -> x.count(4));
        asked("trace", x -> x.trace());
        for (int i = -2; i <= 5; i++) {
            int part = i;
            asked("tour", x -> x.tour(60, part));
            asked("tour", x -> x.tour(30, part));
            asked("ring", x -> x.ring(part));
        }
        asked("from", x -> x.from(40));
        asked("from", x -> x.from(360));
        asked("had", x -> x.had(9, 1));
        asked("odds", x -> x.odds(3, 40, 0));
        asked("rests", x -> x.rests(9, 9, 0));
        asked("mixed", x -> x.mixed(9, 9, 1));
        asked("net", x -> x.net(1));
    }

    private static void asked(String name, Refused.Call call) {
        Refused.call(name, MIDWAY, call, call.on(midway()));
    }
}
