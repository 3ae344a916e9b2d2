import java.io.IOException;
import java.nio.file.Files;
import java.nio.file.Path;

/** Terms 4 and promises 25 to 29: kinds, images, counts, the trace; the constants; the last of 512 calls. */
final class KindsBounds {
    private static final int BAD = KingPrices.BAD, STATE = KingPrices.STATE, NONE = KingPrices.NONE, NO = KingPrices.NO;
    private static final int LEAST = Integer.MIN_VALUE, MOST = Integer.MAX_VALUE;
    private static final long[] ASKED = {1, 11, 101, 1011, 10101, 100001};

    private KindsBounds() {
    }

    static void all() throws IOException {
        marks();
        marksAtTheirEdges();
        markBounds();
        traceOfEachKind();
        traceStays();
        keepBounds();
        backBounds();
        imagesKeepNow();
        imagesKeepWhatMayBeUndone();
        imagesKeepNothingElse();
        imagesAreTwo();
        readAnew();
        readAnewFromAnotherText();
        count();
        constants();
        orderOfTheCalls();
        theLastOf512Calls();
    }

    private static void marks() {
        Doc.terms("4 KINDS of VILLAGES are over one another: 0 VILLAGE; 1 ABBEY, 2 FORD, 5 TOWN (each under VILLAGE); 3 GRANGE (under ABBEY); 4 PORT (under FORD).",
            "MARK of a VILLAGE as if of a KIND", "\"up\" is what the KIND above does):", "VILLAGE what is shown", "ABBEY up, and what is hidden",
            "FORD up less its NEED", "GRANGE up times 2", "PORT up, and its COINS", "TOWN up, and its TALLY");
        Doc.promise(25, "`int mark(int kind, int v)`: MARK.");
        KingPrices x = Check.landOfMarks();
        int[] want = {33, 33 + 7, 33 - 50, (33 + 7) * 2, 33 - 50 + 2, 33 + 13};
        for (int kind = 0; kind <= 5; kind++) {
            Check.due("mark(" + kind + ", 0)", x.mark(kind, 0), want[kind]);
        }
    }

    private static void marksAtTheirEdges() {
        KingPrices least = Check.told("v0 60 0;");
        int[] low = {0, 0, -60, 0, -60, 0};
        KingPrices most = Check.told("v0 0 0;v60 0 1;");
        int[] high = {60, 60, 60, 120, 60, 60};
        for (int kind = 0; kind <= 5; kind++) {
            Check.due("the least mark(" + kind + ", 0)", least.mark(kind, 0), low[kind]);
            Check.due("the most mark(" + kind + ", 1)", most.mark(kind, 1), high[kind]);
        }
        KingPrices hidden = Check.told("v60 60 0;");
        hidden.hides(0, 60);
        int[] gone = {0, 60, -60, 120, -60, 0};
        KingPrices sold = Check.told("v60 60 0;w10;");
        sold.takes(60);
        sold.sells(0, 57);
        int[] coins = {0, 0, -60, 0, -41, 3};
        for (int kind = 0; kind <= 5; kind++) {
            Check.due("all hidden: mark(" + kind + ", 0)", hidden.mark(kind, 0), gone[kind]);
            Check.due("all taken, sold: mark(" + kind + ", 0)", sold.mark(kind, 0), coins[kind]);
        }
    }

    private static void markBounds() {
        Doc.promise(25, "NO: BAD.");
        KingPrices x = Check.told("v9 0 0;v9 0 0;");
        for (int wrong : new int[] {-1, 6, LEAST, MOST}) {
            Check.due("mark(" + wrong + ", 0)", x.mark(wrong, 0), NO);
            Check.due("mark(" + wrong + ", 2)", x.mark(wrong, 2), NO);
        }
        for (int wrong : new int[] {-1, 2, 6, LEAST, MOST}) {
            Check.due("mark(0, " + wrong + ")", x.mark(0, wrong), NO);
            Check.due("mark(5, " + wrong + ")", x.mark(5, wrong), NO);
        }
        Check.due("trace behind NO", x.trace(), 0);
        Check.due("mark(5, 1)", x.mark(5, 1), 9);
        Check.due("mark(0, 0)", x.mark(0, 0), 9);
        Check.due("new: mark(0, 0)", new KingPrices().mark(0, 0), NO);
        KingPrices six = Check.told("v1 0 0;".repeat(6));
        Check.due("mark(0, 5) of six", six.mark(0, 5), 1);
        Check.due("mark(0, 6) of six", six.mark(0, 6), NO);
    }

    private static void traceOfEachKind() {
        Doc.terms("(numbers in brackets come to THE TRACE as often as mark() asks that body;", "(1).", "(10).", "(100).", "(1000).",
            "(10000).", "(100000).");
        Doc.promise(29, "`long trace()`: THE TRACE.");
        for (int kind = 0; kind <= 5; kind++) {
            KingPrices x = Check.told("v9 1 0;v0 0 1;");
            Check.due("trace at first", x.trace(), 0);
            for (int times = 1; times <= 12; times++) {
                x.mark(kind, times % 2);
                Check.due("trace of kind " + kind, x.trace(), ASKED[kind] * times);
                Check.due("trace asked again", x.trace(), ASKED[kind] * times);
            }
        }
    }

    private static void traceStays() {
        KingPrices x = Check.told("v9 1 0;m1;");
        x.keep(0);
        x.mark(3, 0);
        x.stays();
        x.undo();
        Check.due("trace behind undo", x.trace(), 1011);
        x.back(0);
        Check.due("trace behind back", x.trace(), 1011);
        Check.type(x, "v9 1 0;");
        x.land();
        Check.due("trace behind land", x.trace(), 1011);
        x.mark(0, 0);
        Check.due("trace goes on", x.trace(), 1012);
    }

    private static void keepBounds() {
        Doc.promise(26, "`int keep(int image)`: An IMAGE is kept: THE DAY.", "BAD.");
        KingPrices x = Check.told("v9 0 0;");
        for (int wrong : new int[] {-1, 2, LEAST, MOST}) {
            Check.due("keep(" + wrong + ")", x.keep(wrong), BAD);
            Check.due("new: keep(" + wrong + ")", new KingPrices().keep(wrong), BAD);
        }
        Check.due("back(0) behind BAD", x.back(0), STATE);
        Check.due("back(1) behind BAD", x.back(1), STATE);
        Check.due("keep(0)", x.keep(0), 0);
        x.stays();
        Check.due("keep(1)", x.keep(1), 1);
        x.stays();
        Check.due("keep(0) again", x.keep(0), 2);
        Check.due("new: keep(0)", new KingPrices().keep(0), 0);
        Check.due("new: keep(1)", new KingPrices().keep(1), 0);
    }

    private static void backBounds() {
        Doc.promise(27, "`int back(int image)`: All of that becomes as an IMAGE has it: THE DAY.", "BAD; STATE: none was kept.");
        for (int image = 0; image <= 1; image++) {
            KingPrices x = Check.told("v9 0 0;");
            for (int wrong : new int[] {-1, 2, LEAST, MOST}) {
                Check.due("back(" + wrong + ")", x.back(wrong), BAD);
            }
            Check.due("back(" + image + "), none kept", x.back(image), STATE);
            x.stays();
            x.keep(image);
            x.stays();
            Check.due("back(" + image + ")", x.back(image), 1);
            Check.due("back(" + image + ") again", x.back(image), 1);
            Check.due("back of the other, none kept", x.back(1 - image), STATE);
            Check.due("day behind that", x.now(1), 1);
        }
    }

    private static void imagesKeepNow() {
        Doc.terms("IMAGES 0, 1 keep NOW (where THE COURT is, THE DAY, BASKET, HUNGER, hens shown and hidden, TALLIES, COINS,");
        Refused.Call[] deeds = {x -> x.goes(1), x -> x.stays(), x -> x.takes(7), x -> x.hides(1, 5), x -> x.shows(0, 3),
            x -> x.pays(0), x -> x.sells(0, 4), x -> x.goes(1) + x.stays() + x.takes(9) + x.hides(0, 1) + x.sells(1, 3)};
        for (int image = 0; image <= 1; image++) {
            for (int deed = 0; deed < deeds.length; deed++) {
                KingPrices x = Check.told("v60 0 0;v20 0 0;r0 1 2;w10;b3;");
                x.stays();
                x.takes(20);
                x.hides(0, 9);
                x.sells(0, 5);
                x.keep(image);
                String kept = Check.seen(x);
                Check.due("deed " + deed + " is done", deeds[deed].on(x) < 0 ? 0 : 1, 1);
                Check.due("something is otherwise behind deed " + deed, Check.seen(x).equals(kept) ? 0 : 1, 1);
                Check.due("back(" + image + ")", x.back(image), 1);
                Check.alike("seen when deed " + deed + " has gone back", Check.seen(x), kept);
            }
        }
    }

    private static void imagesKeepWhatMayBeUndone() {
        Doc.terms("what may be UNDONE); nothing else.");
        for (int done : new int[] {0, 1, 9, 10, 11}) {
            KingPrices x = Check.told("v60 0 0;m1;b50;");
            for (int i = 0; i < done; i++) {
                x.stays();
            }
            x.keep(1);
            for (int i = 0; i < 12; i++) {
                x.takes(1);
            }
            Check.due("back(1)", x.back(1), done);
            int known = Math.min(done, 10);
            Check.due("may be undone, as kept", x.count(4), known);
            for (int left = known - 1; left >= 0; left--) {
                Check.due("undo", x.undo(), left);
                Check.due("day", x.now(1), done - known + left);
                Check.due("shown", x.village(0, 0), 60);
            }
            Check.due("no more; back itself can't be undone", x.undo(), STATE);
            Check.due("back(1) again", x.back(1), done);
            Check.due("the image still has them", x.count(4), known);
        }
    }

    private static void imagesKeepNothingElse() {
        KingPrices x = Check.told("v9 0 0;m1;");
        x.keep(0);
        x.mark(5, 0);
        Check.type(x, "m7;");
        x.back(0);
        Check.due("the trace is in no image", x.trace(), 100001);
        Check.due("the text is in no image", x.count(5), 3);
        Check.due("the text is as it was typed", x.land(), 1);
        Check.due("mouths", x.count(2), 7);
    }

    private static void imagesAreTwo() {
        KingPrices x = Check.told("v60 0 0;m1;");
        x.stays();
        x.keep(0);
        x.takes(5);
        x.keep(1);
        x.stays();
        Check.due("back(0)", x.back(0), 1);
        Check.due("shown by 0", x.village(0, 0), 60);
        Check.due("back(1)", x.back(1), 1);
        Check.due("shown by 1", x.village(0, 0), 55);
        x.takes(10);
        x.keep(0);
        Check.due("back(1)", x.back(1), 1);
        Check.due("shown by 1, as before", x.village(0, 0), 55);
        Check.due("back(0)", x.back(0), 1);
        Check.due("shown by 0, kept anew", x.village(0, 0), 45);
        x.undo();
        x.back(0);
        Check.due("what is done later is in no image", x.village(0, 0), 45);
    }

    private static void readAnew() {
        Doc.terms("(Read anew: as told, DAY 0, nothing to be UNDONE, IMAGES are gone.)");
        String text = "v60 0 0;v20 0 0;r0 1 2;d0 1 3;w10;b3;";
        KingPrices x = Check.told(text);
        String fresh = Check.seen(x);
        x.takes(20);
        x.sells(0, 5);
        x.hides(1, 9);
        x.goes(1);
        for (int i = 0; i < 9; i++) {
            x.stays();
        }
        x.keep(0);
        x.keep(1);
        Check.type(x, "v");
        Check.due("land at fault", x.land(), -11);
        Check.due("images are there behind a fault", x.back(0), 11);
        Check.due("images are there behind a fault", x.back(1), 11);
        Check.due("all may be undone behind a fault", x.count(4), 10);
        x.clear();
        Check.type(x, text);
        Check.due("the same land anew", x.land(), 6);
        Check.alike("as told", Check.seen(x), fresh);
        Check.due("nothing to be undone", x.undo(), STATE);
        Check.due("image 0 is gone", x.back(0), STATE);
        Check.due("image 1 is gone", x.back(1), STATE);
        Check.alike("as told, behind what was refused", Check.seen(x), fresh);
        Check.due("an image of the new land", x.keep(1), 0);
        Check.due("an image of the new land", x.back(1), 0);
        x.clear();
        Check.due("read anew from nothing", x.land(), 0);
        Check.due("image of the land that was", x.back(1), STATE);
        Check.due("court", x.now(0), NONE);
    }

    /** Two texts ahead, so that whatever is used again has been used by another land. */
    private static void readAnewFromAnotherText() {
        String[] older = {"v60 9 1;".repeat(6) + "r0 1 2;r0 2 3;r4 5 1;d0 1 3;d5 0 9;m9;w1;b7;", "v50 8 0;v9 9 1;r0 1 1;d1 0 8;m8;w2;b8;"};
        String[] newer = {"", "v9 1 0;", "v3 2 0;v4 0 0;v1 1 0;r1 0 9;d1 0 1;", "m2;", "w4;", "b3;", "v0 0 1;v0 0 0;"};
        for (String text : newer) {
            KingPrices x = new KingPrices();
            for (String other : older) {
                Check.type(x, other);
                x.land();
                x.takes(5);
                x.stays();
            }
            Check.type(x, text);
            x.land();
            Check.alike("as told, behind others, by " + text, Check.seen(x), Check.seen(Check.told(text)));
            Check.due("a tour as told by " + text, x.tour(3, -1), Check.told(text).tour(3, -1));
            Check.due("a ring as told by " + text, x.ring(-1), Check.told(text).ring(-1));
        }
    }

    private static void count() {
        Doc.promise(28, "`int count(int what)`: 0 VILLAGES, 1 ROADS, 2 MOUTHS, 3 WRITES, 4 how many may be UNDONE, 5 bytes of THE TEXT.", "BAD.");
        KingPrices x = Check.told("v0 0 0;v1 1 1;v1 0 0;r0 1 1;r1 0 1;m7;w4;");
        x.stays();
        Check.type(x, "abcdef");
        int[] want = {3, 2, 7, 4, 1, 6};
        for (int what = 0; what <= 5; what++) {
            Check.due("count(" + what + ")", x.count(what), want[what]);
        }
        for (int wrong : new int[] {-1, 6, LEAST, MOST}) {
            Check.due("count(" + wrong + ")", x.count(wrong), BAD);
            Check.due("new: count(" + wrong + ")", new KingPrices().count(wrong), BAD);
        }
    }

    private static void constants() {
        Doc.terms("The constants: `NO = -1000000`: What none is, where a number may be below 0.");
        Check.due("BAD", KingPrices.BAD, -1);
        Check.due("STATE", KingPrices.STATE, -2);
        Check.due("FULL", KingPrices.FULL, -3);
        Check.due("NONE", KingPrices.NONE, -9);
        Check.due("NO", KingPrices.NO, -1000000);
        KingPrices x = Check.told("v0 1 0;v0 9 0;d0 1 1;");
        Check.due("a net that is as much as BAD", x.net(0), -1);
        Check.due("a mark that is as much as BAD", x.mark(2, 0), -1);
        Check.due("a mark that is as much as NONE", x.mark(2, 1), -9);
    }

    private static void orderOfTheCalls() throws IOException {
        String[][] parts = {{"the land", "type", "clear", "land", "village", "far", "owes"},
            {"what is done", "goes", "stays", "takes", "hides", "shows", "pays", "sells", "undo", "now"},
            {"tours, hens", "tour", "from", "had", "odds"}, {"games, rings", "rests", "mixed", "ring", "net"},
            {"kinds, images", "mark", "keep", "back", "count", "trace"}};
        String source = Files.readString(Path.of("src/main/java/KingPrices.java"));
        int place = 0;
        for (String[] part : parts) {
            StringBuilder names = new StringBuilder();
            for (int i = 0; i < part.length; i++) {
                String sign = i == 0 ? "// ---- " + part[0] : " " + part[i] + "(int ";
                int at = source.indexOf(sign, place);
                at = at < 0 ? source.indexOf(" " + part[i] + "() {", place) : at;
                Check.due(part[i] + " comes in its order", at < 0 ? 0 : 1, 1);
                place = Math.max(place, at);
                names.append(i == 0 ? "" : ", ").append(i == 0 ? "" : "`" + part[i] + "`");
            }
            Doc.terms("Ahead of the calls " + names.substring(2) + " the interface says: ---- " + part[0] + ".");
        }
    }

    /** "An object is used for at most 512 calls": the last of them answers as the first. */
    private static void theLastOf512Calls() {
        String text = "v60 0 0;m1;b99;";
        KingPrices done = toldByCalls(text);
        KingPrices marked = toldByCalls(text);
        long sum = 0;
        for (int call = text.length() + 2; call < 512; call++) {
            Check.due("stays()", done.stays(), call - text.length() - 1);
            marked.mark(call % 6, 0);
            sum += ASKED[call % 6];
        }
        Check.due("the 512th call", done.undo(), 9);
        Check.due("the 512th call", marked.trace(), sum);
    }

    /** As many calls as the text has bytes, and one. */
    private static KingPrices toldByCalls(String text) {
        KingPrices x = new KingPrices();
        for (int i = 0; i < text.length(); i++) {
            x.type(text.charAt(i));
        }
        x.land();
        return x;
    }
}
