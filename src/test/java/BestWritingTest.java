/** Promises 9 to 13: the best writing, in numbers that were worked out by hand. */
public final class BestWritingTest {
    private static final int MIN = Integer.MIN_VALUE, MAX = Integer.MAX_VALUE;

    public static void main(String[] args) {
        errorsAndGraces();
        prices();
        depths();
        changes();
        likeBars();
        likeSpans();
        dealtWhateverTheTimes();
        bar();
        written();
        shown();
        count();
        refused();
        followsEveryChange();
        Check.end("BestWritingTest");
    }

    private static void texts(String when, PlayedWritten x, String... want) {
        for (int b = 0; b < want.length; b++) {
            Check.due(when + ", BAR " + b, Check.shown(x, b), want[b]);
        }
        Check.due(when + ", BARS", x.told(4), want.length);
    }

    private static void facts(String when, PlayedWritten x, int b, int... want) {
        for (int what = 0; what < want.length; what++) {
            Check.due(when + ", bar(" + b + ", " + what + ")", x.bar(b, what), want[what]);
        }
    }

    private static void stroke(String when, PlayedWritten x, int k, int... want) {
        for (int what = 0; what < want.length; what++) {
            Check.due(when + ", written(" + k + ", " + what + ")", x.written(k, what), want[what]);
        }
    }

    private static void counts(String when, PlayedWritten x, int... want) {
        for (int what = 0; what < want.length; what++) {
            Check.due(when + ", count(" + what + ")", x.count(what), want[what]);
        }
    }

    private static PlayedWritten inBars(int bars, int depth, int... times) {
        PlayedWritten x = Check.with(times);
        x.sets(0, bars);
        x.sets(3, depth);
        return x;
    }

    private static void setPrices(PlayedWritten x, int halves, int swing, int thirds) {
        x.sets(4, halves);
        x.sets(5, swing);
        x.sets(6, thirds);
    }

    private static void errorsAndGraces() {
        Check.due("one late", inBars(1, 0, 3).cost(), 3 * 216);
        Check.due("as a CHORD", inBars(1, 0, 0, 6).cost(), 6 * 216);
        Check.due("as a GRACE", inBars(1, 0, 0, 7).cost(), (7 + 6) * 216);
        Check.due("each by the one ahead", inBars(1, 0, 0, 6, 12).cost(), 18 * 216);
        PlayedWritten x = inBars(1, 0, 0, 50, 101, 101);
        x.sets(9, 50);
        Check.due("CHORD 50", x.cost(), (252 + 6) * 216);
        x.sets(9, 0);
        Check.due("CHORD 0", x.cost(), (252 + 12) * 216);
        x.sets(7, 99);
        Check.due("GRACE 99", x.cost(), (252 + 198) * 216);
        x.sets(7, 0);
        Check.due("GRACE 0", x.cost(), 252 * 216);
        Check.due("far off", inBars(1, 0, 1999).cost(), 1999 * 216);
        Check.due("eight far off", inBars(1, 0, 1999, 1999, 1999, 1999, 1999, 1999, 1999, 1999).cost(),
                8 * 1999 * 216);
        PlayedWritten y = inBars(1, 1, 0, 100);
        y.sets(1, 215);
        Check.due("an ERROR of half a tick", y.cost(), 4 * 216 + 215 * 108 - 216 * 100);
    }

    private static void prices() {
        PlayedWritten x = inBars(1, 2, 0, 108);
        texts("by HALVES", x, "[11]");
        Check.due("by HALVES", x.cost(), 4 * 216);
        x.moves(1, 144);
        texts("by THIRDS", x, "{1-1}");
        Check.due("by THIRDS", x.cost(), 8 * 216);
        x.sets(6, 11);
        texts("by SWING", x, "<11>");
        Check.due("by SWING", x.cost(), 10 * 216);
        setPrices(x, 4, 99, 99);
        texts("by HALVES twice", x, "[1[-1]]");
        Check.due("by HALVES twice", x.cost(), (4 + 4 + 18) * 216);
        setPrices(x, 99, 99, 99);
        texts("all at 99", x, "<11>");
        Check.due("all at 99", x.cost(), 99 * 216);
    }

    private static void depths() {
        PlayedWritten x = inBars(1, 3, 27);
        setPrices(x, 0, 0, 0);
        texts("DEPTH 3", x, "[[[-1]-]-]");
        Check.due("DEPTH 3", x.cost(), 0);
        x.sets(3, 2);
        texts("DEPTH 2", x, "{{-1-}--}");
        Check.due("DEPTH 2", x.cost(), 3 * 216);
        x.sets(3, 1);
        texts("DEPTH 1", x, "1");
        Check.due("DEPTH 1", x.cost(), 27 * 216);
        x.moves(0, 80);
        texts("DEPTH 1", x, "{-1-}");
        x.sets(3, 0);
        texts("DEPTH 0", x, "1");
        Check.due("DEPTH 0", x.cost(), 80 * 216);
    }

    private static PlayedWritten bending(int change) {
        PlayedWritten x = inBars(2, 0, 0, 220);
        x.sets(1, 200);
        x.sets(2, 20);
        x.sets(8, change);
        return x;
    }

    private static void changes() {
        PlayedWritten x = bending(2);
        Check.due("bending is too dear", x.cost(), 20 * 216);
        facts("bending is too dear", x, 0, 200, 0);
        x = bending(1);
        Check.due("bending costs the same", x.cost(), 20 * 216);
        facts("the shorter first BAR", x, 0, 200, 0);
        facts("the shorter first BAR", x, 1, 200, 200);
        x = bending(0);
        Check.due("bending is free", x.cost(), 0);
        facts("bending is free", x, 0, 220, 0);
        facts("the shortest second BAR", x, 1, 180, 220);
        counts("bending is free", x, 0, 0, 0, 0, 2, 60, 2);
        PlayedWritten y = inBars(1, 1, 0, 110);
        y.sets(1, 200);
        y.sets(2, 20);
        y.sets(8, 0);
        Check.due("the first BAR by LENGTH, free", y.cost(), 4 * 216);
        facts("the first BAR by LENGTH, free", y, 0, 220);
        y.sets(8, 1);
        Check.due("the first BAR by LENGTH", y.cost(), (4 + 10) * 216);
        facts("the first BAR by LENGTH", y, 0, 200);
        PlayedWritten z = inBars(3, 0, 24, 48);
        z.sets(1, 48);
        z.sets(2, 24);
        z.sets(8, 0);
        Check.due("three BARS of 24 ticks", z.cost(), 0);
        facts("three BARS of 24 ticks", z, 0, 24, 0, 0, 0);
        facts("three BARS of 24 ticks", z, 1, 24, 24, 0, 1);
        facts("three BARS of 24 ticks", z, 2, 24, 48, 1, 1);
        counts("three BARS of 24 ticks", z, 0, 0, 0, 0, 2, 24, 2);
    }

    private static void likeBars() {
        PlayedWritten x = inBars(2, 0, 108);
        texts("fewest in the first BAR", x, "-", "1");
        Check.due("fewest in the first BAR", x.cost(), 108 * 216);
        PlayedWritten y = inBars(2, 0, 90);
        y.sets(1, 200);
        y.sets(2, 20);
        y.sets(8, 0);
        texts("the shortest first BAR, then fewest", y, "-", "1");
        facts("the shortest first BAR, then fewest", y, 0, 180);
        facts("the shortest first BAR, then fewest", y, 1, 180);
        y.moves(0, 95);
        // Dealt to the first BAR it costs 95, to one that begins at 180 but 85.
        texts("the shortest first BAR is the best", y, "-", "1");
        y.moves(0, 85);
        texts("dealt to the first BAR", y, "1", "-");
        facts("dealt to the first BAR", y, 0, 180);
    }

    private static void likeSpans() {
        PlayedWritten x = inBars(1, 1, 54);
        setPrices(x, 0, 99, 99);
        texts("LEAF ahead of HALVES", x, "1");
        x.moves(0, 126);
        setPrices(x, 0, 0, 0);
        texts("HALVES ahead of SWING", x, "[-1]");
        x.moves(0, 150);
        texts("SWING ahead of THIRDS", x, "<-1>");
        x = inBars(1, 1, 54, 108);
        setPrices(x, 0, 99, 99);
        x.sets(7, 0);
        texts("fewest in the first part", x, "[-2]");
        Check.due("fewest in the first part", x.cost(), 54 * 216);
        x = inBars(1, 1, 108);
        setPrices(x, 99, 99, 0);
        texts("fewest in the second part", x, "{--1}");
        Check.due("fewest in the second part", x.cost(), 36 * 216);
    }

    private static void dealtWhateverTheTimes() {
        PlayedWritten x = inBars(2, 0, 1999);
        texts("far behind", x, "-", "1");
        Check.due("far behind", x.cost(), 1783 * 216);
        x = inBars(2, 0, 210);
        texts("ahead of its BAR", x, "-", "1");
        Check.due("ahead of its BAR", x.written(0, 2), 6 * 216);
        x = inBars(2, 0, 0, 100);
        x.sets(7, 99);
        texts("rather than a GRACE", x, "1", "1");
        Check.due("rather than a GRACE", x.cost(), 116 * 216);
    }

    private static void bar() {
        PlayedWritten x = Check.with(0, 54, 110, 216, 300);
        texts("five", x, "[[11]1]", "{11-}");
        facts("five", x, 0, 216, 0, 0, 3, 2, 3, 2, 432, 0);
        facts("five", x, 1, 216, 216, 3, 2, 1, 3, 1, 2592, 0);
        PlayedWritten none = new PlayedWritten();
        facts("none", none, 0, 216, 0, 0, 0, 0, 1, 0, 0, 0);
        facts("none", none, 1, 216, 216, 0, 0, 0, 1, 0, 0, 0);
        PlayedWritten y = inBars(3, 0, 0, 7, 14, 432);
        facts("GRACES", y, 0, 216, 0, 0, 3, 0, 1, 0, 21 * 216, 2);
        facts("a BAR without STROKES", y, 1, 216, 216, 3, 0, 0, 1, 0, 0, 0);
        facts("the third BAR", y, 2, 216, 432, 3, 1, 0, 1, 0, 0, 0);
    }

    private static void written() {
        PlayedWritten x = Check.with(0, 54, 110, 216, 300);
        stroke("five", x, 0, 0, 0, 0, 1, 0, 2);
        stroke("five", x, 1, 0, 54, 0, 1, 0, 2);
        stroke("five", x, 2, 0, 108, 432, 1, 0, 1);
        stroke("five", x, 3, 1, 0, 0, 1, 0, 1);
        stroke("five", x, 4, 1, 72, 2592, 1, 0, 1);
        PlayedWritten y = inBars(1, 0, 0, 6, 13);
        stroke("a LEAF", y, 0, 0, 0, 0, 3, 0, 0);
        stroke("a LEAF", y, 1, 0, 0, 6 * 216, 3, 0, 0);
        stroke("a LEAF", y, 2, 0, 0, 13 * 216, 3, 1, 0);
    }

    private static void shown() {
        PlayedWritten x = inBars(1, 3, 8, 32, 56, 80, 104, 128, 152, 176);
        setPrices(x, 0, 0, 0);
        String longest = "{{{-1-}{-1-}{-1-}}{{-1-}{-1-}{-1-}}{{-1-}{-1-}-}}";
        texts("the longest", x, longest);
        Check.due("its last byte", x.shown(0, 48), '}');
        Check.due("behind it", x.shown(0, 49), PlayedWritten.NONE);
        Check.due("far behind it", x.shown(0, MAX), PlayedWritten.NONE);
        PlayedWritten y = inBars(1, 0, 1, 1, 1, 1, 1, 1, 1, 1);
        texts("eight in a LEAF", y, "8");
    }

    private static void count() {
        PlayedWritten x = Check.with(0, 54, 110, 216, 300);
        counts("five", x, 2, 0, 1, 0, 3, 0, 5);
        counts("none", new PlayedWritten(), 0, 0, 0, 0, 0, 0, 0);
        PlayedWritten y = inBars(1, 1, 0, 9, 144);
        y.sets(6, 99);
        texts("a GRACE", y, "<21>");
        counts("a GRACE", y, 0, 1, 0, 1, 2, 0, 2);
    }

    private static void refused() {
        PlayedWritten x = Check.with(0, 54);
        int[][] bars = {{-1, 0}, {2, 0}, {0, -1}, {0, 9}, {MIN, 0}, {MAX, 0}, {1, MIN}, {1, MAX}};
        for (int[] w : bars) {
            Check.due("bar(" + w[0] + ", " + w[1] + ")", x.bar(w[0], w[1]), PlayedWritten.BAD);
        }
        int[][] strokes = {{-1, 0}, {2, 0}, {0, -1}, {0, 6}, {MIN, 0}, {MAX, 0}, {1, MIN}, {1, MAX}};
        for (int[] w : strokes) {
            Check.due("written(" + w[0] + ", " + w[1] + ")", x.written(w[0], w[1]), PlayedWritten.BAD);
        }
        int[][] places = {{-1, 0}, {2, 0}, {0, -1}, {MIN, 0}, {MAX, 0}, {1, MIN}, {2, 999}, {2, MAX}};
        for (int[] w : places) {
            Check.due("shown(" + w[0] + ", " + w[1] + ")", x.shown(w[0], w[1]), PlayedWritten.BAD);
        }
        for (int what : new int[] {-1, 7, MIN, MAX}) {
            Check.due("count(" + what + ")", x.count(what), PlayedWritten.BAD);
        }
        Check.due("BADs", x.told(0), 28);
        Check.due("STATES", x.told(15), 2);
        x.sets(0, 3);
        Check.due("a third BAR", x.bar(2, 1), 432);
        x.sets(0, 1);
        Check.due("no second BAR", x.bar(1, 0), PlayedWritten.BAD);
        Check.due("no second BAR", x.shown(1, 0), PlayedWritten.BAD);
    }

    private static void followsEveryChange() {
        PlayedWritten x = inBars(1, 0);
        Check.due("none", x.cost(), 0);
        x.strikes(5);
        Check.due("struck", x.cost(), 5 * 216);
        x.shifts(2);
        Check.due("shifted", x.cost(), 7 * 216);
        x.moves(0, 9);
        Check.due("moved", x.cost(), 9 * 216);
        x.sets(3, 2);
        setPrices(x, 0, 0, 0);
        Check.due("set", x.cost(), 9 * 216);
        x.moves(0, 24);
        Check.due("moved", x.cost(), 0);
        x.back();
        Check.due("back", x.cost(), 9 * 216);
        x.lifts(0);
        Check.due("lifted", x.cost(), 0);
        x.back();
        Check.types(x, "[-1]");
        x.plays();
        Check.due("played", x.cost(), 0);
        texts("played", x, "[-1]");
        x.draws(1, 0);
        texts("drawn", x, "-");
    }
}
