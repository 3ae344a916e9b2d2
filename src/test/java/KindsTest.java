/** Promises 25 to 29: kinds, images, counts, the trace. */
public final class KindsTest {
    private static final int BAD = KingPrices.BAD, STATE = KingPrices.STATE, NO = KingPrices.NO;
    private static final int LEAST = Integer.MIN_VALUE, MOST = Integer.MAX_VALUE;

    public static void main(String[] args) {
        promise25Mark();
        promise26Keep();
        promise27Back();
        promise27WhatMayBeUndone();
        promise28Count();
        promise29Trace();
        Check.end();
    }

    private static void promise25Mark() {
        KingPrices x = Check.landOfMarks();
        int[] want = {33, 40, -17, 80, -15, 46};
        String before = Check.seen(x);
        for (int kind = 0; kind < 6; kind++) {
            Check.due("mark(" + kind + ", 0)", x.mark(kind, 0), want[kind]);
        }
        int[] other = {1, 1, -1, 2, -1, 1};
        for (int kind = 0; kind < 6; kind++) {
            Check.due("mark(" + kind + ", 1)", x.mark(kind, 1), other[kind]);
        }
        String trace = " " + x.trace();
        Check.alike("seen after mark", Check.seen(x), before.substring(0, before.lastIndexOf(' ')) + trace);
        int[][] bad = {{-1, 0}, {6, 0}, {0, -1}, {0, 2}, {LEAST, 0}, {MOST, 0}, {0, LEAST}, {0, MOST}, {0, 6}};
        for (int[] b : bad) {
            Check.due("mark(" + b[0] + ", " + b[1] + ")", x.mark(b[0], b[1]), NO);
        }
        Check.alike("trace after NO", " " + x.trace(), trace);
    }

    private static void promise26Keep() {
        KingPrices x = Check.told("v60 0 0;b9;");
        for (int image : new int[] {-1, 2, LEAST, MOST}) {
            Check.due("keep(" + image + ")", x.keep(image), BAD);
        }
        Check.due("back(0), none kept", x.back(0), STATE);
        String before = Check.seen(x);
        Check.due("keep(0)", x.keep(0), 0);
        Check.alike("seen after keep", Check.seen(x), before);
        x.stays();
        Check.due("keep(1)", x.keep(1), 1);
        x.stays();
        Check.due("keep(0) again", x.keep(0), 2);
        x.stays();
        Check.due("back(1)", x.back(1), 1);
        Check.due("back(0)", x.back(0), 2);
        KingPrices none = new KingPrices();
        Check.due("keep(1) without villages", none.keep(1), 0);
        Check.due("back(1) without villages", none.back(1), 0);
        Check.due("back(0), not kept", none.back(0), STATE);
    }

    private static void promise27Back() {
        KingPrices x = Check.told("v60 5 0;v60 5 0;r0 1 3;w10;b9;m5;");
        for (int image : new int[] {-1, 2, LEAST, MOST}) {
            Check.due("back(" + image + ")", x.back(image), BAD);
        }
        for (int image = 0; image < 2; image++) {
            String before = Check.seen(x);
            Check.due("back(" + image + "), none kept", x.back(image), STATE);
            Check.alike("seen after that", Check.seen(x), before);
        }
        x.takes(20);
        x.sells(0, 9);
        x.hides(0, 4);
        x.goes(1);
        x.takes(30);
        x.hides(1, 6);
        Check.due("keep(1)", x.keep(1), 3);
        String kept = Check.seen(x);
        x.goes(0);
        x.takes(10);
        x.shows(0, 2);
        x.pays(1);
        x.sells(0, 20);
        x.stays();
        for (int i = 0; i < 9; i++) {
            x.goes(1 - i % 2);
        }
        Check.due("hunger", x.now(3) > 0 ? 1 : 0, 1);
        Check.due("back(1)", x.back(1), 3);
        Check.alike("seen after back", Check.seen(x), kept);
        x.stays();
        Check.due("back(1) again", x.back(1), 3);
        Check.alike("seen after back again", Check.seen(x), kept);
        Check.due("back(0), not kept", x.back(0), STATE);
        x.mark(0, 0);
        Check.type(x, "m1");
        x.back(1);
        Check.due("the trace is not in an image", x.trace(), 1);
        Check.due("the text is not in an image", x.count(5), 2);
    }

    private static void promise27WhatMayBeUndone() {
        KingPrices x = Check.told("v60 0 0;m1;");
        x.stays();
        x.takes(5);
        x.keep(0);
        for (int i = 0; i < 12; i++) {
            x.stays();
        }
        Check.due("may be undone", x.count(4), 10);
        Check.due("back(0)", x.back(0), 1);
        Check.due("may be undone, as kept", x.count(4), 2);
        Check.due("undo()", x.undo(), 1);
        Check.due("hens", x.village(0, 0), 60);
        Check.due("undo()", x.undo(), 0);
        Check.due("day", x.now(1), 0);
        Check.due("back can't be undone", x.undo(), STATE);
        Check.due("back(0) again", x.back(0), 1);
        Check.due("may be undone, as kept", x.count(4), 2);
        x.stays();
        Check.due("undo() of what came later", x.undo(), 2);
        Check.due("hens", x.village(0, 0), 55);
        Check.due("undo()", x.undo(), 1);
        Check.due("hens", x.village(0, 0), 60);
    }

    private static void promise28Count() {
        KingPrices x = Check.told("v0 0 0;v1 1 1;r0 1 1;r1 0 1;r0 1 2;m7;w4;");
        x.stays();
        x.hides(1, 1);
        Check.type(x, "abcd");
        int[] want = {2, 3, 7, 4, 2, 4};
        for (int what = 0; what < want.length; what++) {
            Check.due("count(" + what + ")", x.count(what), want[what]);
        }
        for (int what : new int[] {-1, 6, LEAST, MOST}) {
            Check.due("count(" + what + ")", x.count(what), BAD);
        }
    }

    private static void promise29Trace() {
        KingPrices x = Check.landOfMarks();
        Check.due("trace()", x.trace(), 0);
        long[] asked = {1, 11, 101, 1011, 10101, 100001};
        long sum = 0;
        for (int times = 0; times < 12; times++) {
            for (int kind = 0; kind < 6; kind++) {
                x.mark(kind, times % 2);
                sum += asked[kind];
                Check.due("trace()", x.trace(), sum);
            }
        }
        x.undo();
        Check.due("trace after undo", x.trace(), sum);
    }
}
