/** Promises 9 to 13, each sentence that names an edge by itself. */
public final class WritingEdgesTest {
    private static final int MIN = Check.MIN, MAX = Check.MAX;
    private static final int NONE = PlayedWritten.NONE;

    public static void main(String[] args) {
        costOfNothing();
        costFarOff();
        barTicks();
        barBegins();
        barFirst();
        barMany();
        barDivisionsLeavesLevels();
        barErrorsGraces();
        barBad();
        barNone();
        writtenBar();
        writtenPlace();
        writtenError();
        writtenTogether();
        writtenGrace();
        writtenLevel();
        writtenBad();
        shownByte();
        shownNone();
        shownBad();
        countEach();
        countBad();
        Check.end("WritingEdgesTest");
    }

    private static PlayedWritten inBars(int bars, int depth, int... times) {
        PlayedWritten x = Check.with(times);
        x.sets(0, bars);
        x.sets(3, depth);
        return x;
    }

    /** All divisions free, so that they go as deep as they help. */
    private static PlayedWritten free(int depth, int... times) {
        PlayedWritten x = inBars(1, depth, times);
        x.sets(4, 0);
        x.sets(5, 0);
        x.sets(6, 0);
        return x;
    }

    private static void costOfNothing() {
        Check.sentence("9: Its COST (no STROKES)");
        int[][] sets = {{1, 48, 0, 0, 0, 0, 0, 0, 0, 0}, {3, 432, 24, 3, 99, 99, 99, 99, 99, 50},
            {3, 48, 24, 3, 0, 0, 0, 0, 0, 0}};
        for (int[] set : sets) {
            PlayedWritten x = new PlayedWritten();
            Check.set(x, set);
            Check.still(x, 0, "cost()", x::cost);
        }
    }

    private static void costFarOff() {
        Check.sentence("9: Its COST (8 STROKES, as far off and as dear as can be)");
        PlayedWritten x = Check.with(1992, 1993, 1994, 1995, 1996, 1997, 1998, 1999);
        Check.set(x, 1, 48, 0, 0, 99, 99, 99, 99, 99, 0);
        Check.still(x, 216 * (1992 * 8 + 28 + 7 * 99), "cost()", x::cost);
        PlayedWritten y = Check.with(1999, 1999, 1999, 1999, 1999, 1999, 1999, 1999);
        Check.set(y, 3, 432, 24, 0, 99, 99, 99, 99, 0, 0);
        Check.due("BARS as long as can be", y.cost(), 216 * 8 * (1999 - 2 * 456));
        y.sets(8, 99);
        // The first BAR longer, the second alike: 24 ticks of CHANGE for 48 of 8 STROKES are too dear.
        Check.due("CHANGE as dear as can be", y.cost(), 216 * 8 * (1999 - 2 * 432));
        y.sets(8, 15);
        Check.due("CHANGE less dear", y.cost(), 216 * (8 * (1999 - 2 * 456) + 24 * 15));
    }

    private static void barTicks() {
        Check.sentence("10: ticks (what 0)");
        int[][] cases = {{48, 24, 24}, {432, 24, 408}, {48, 0, 48}, {432, 0, 432}, {48, 1, 47}};
        for (int[] c : cases) {
            PlayedWritten x = new PlayedWritten();
            Check.set(x, 3, c[0], c[1], 2, 4, 10, 8, 6, 0);
            for (int b = 0; b < 3; b++) {
                Check.due("of LENGTH " + c[0] + " and BEND " + c[1], x.bar(b, 0), c[2]);
            }
        }
        PlayedWritten x = Check.with(456, 912);
        Check.set(x, 3, 432, 24, 0, 4, 10, 8, 6, 0);
        Check.due("the longest", x.bar(0, 0), 456);
        Check.due("the longest", x.bar(1, 0), 456);
        Check.due("the third, of which nothing hangs", x.bar(2, 0), 408);
    }

    private static void barBegins() {
        Check.sentence("10: where it begins (1)");
        PlayedWritten x = Check.with(456, 912);
        Check.set(x, 3, 432, 24, 0, 4, 10, 8, 6, 0);
        Check.due("the first", x.bar(0, 1), 0);
        Check.due("behind the longest", x.bar(1, 1), 456);
        Check.due("behind two of the longest", x.bar(2, 1), 912);
        PlayedWritten y = new PlayedWritten();
        Check.set(y, 3, 48, 24, 0, 4, 10, 8, 6, 0);
        Check.due("the first", y.bar(0, 1), 0);
        Check.due("behind the shortest", y.bar(1, 1), 24);
        Check.due("behind two of the shortest", y.bar(2, 1), 48);
    }

    private static void barFirst() {
        Check.sentence("10: the first STROKE dealt to it (2; as many as are ahead of it, if it has none)");
        firsts("all in the first", inBars(3, 0, 0, 0, 0), 0, 3, 3);
        firsts("all in the second", inBars(3, 0, 216, 216), 0, 0, 2);
        firsts("all in the third", inBars(3, 0, 432, 432), 0, 0, 0);
        firsts("none in the second", inBars(3, 0, 0, 0, 432), 0, 2, 2);
        firsts("none at all", inBars(3, 0), 0, 0, 0);
        firsts("eight in the first", inBars(2, 0, 0, 0, 0, 0, 0, 0, 0, 0), 0, 8);
        firsts("one, one, six", inBars(3, 0, 0, 216, 432, 432, 432, 432, 432, 432), 0, 1, 2);
    }

    private static void firsts(String name, PlayedWritten x, int... want) {
        for (int b = 0; b < want.length; b++) {
            Check.due(name + ", bar(" + b + ", 2)", x.bar(b, 2), want[b]);
        }
    }

    private static void barMany() {
        Check.sentence("10: how many (3)");
        manys("all in the first", inBars(3, 0, 0, 0, 0), 3, 0, 0);
        manys("all in the third", inBars(3, 0, 432, 432), 0, 0, 2);
        manys("none at all", inBars(3, 0), 0, 0, 0);
        manys("eight in one", inBars(1, 0, 0, 9, 99, 199, 299, 399, 999, 1999), 8);
        manys("one, one, six", inBars(3, 0, 0, 216, 432, 432, 432, 432, 432, 432), 1, 1, 6);
    }

    private static void manys(String name, PlayedWritten x, int... want) {
        for (int b = 0; b < want.length; b++) {
            Check.due(name + ", bar(" + b + ", 3)", x.bar(b, 3), want[b]);
        }
    }

    private static void barDivisionsLeavesLevels() {
        Check.sentence("10: divisions (4), LEAVES (5), the greatest LEVEL of any SPAN (6)");
        divided("-", free(3), 0, 1, 0);
        divided("8", free(3, 0, 0, 0, 0, 0, 0, 0, 0), 0, 1, 0);
        divided("[-1]", free(3, 108), 1, 2, 1);
        divided("[[[-1]-]-]", free(3, 27), 3, 4, 3);
        divided("{{{-1-}{-1-}{-1-}}{{-1-}{-1-}{-1-}}{{-1-}{-1-}-}}",
                free(3, 8, 32, 56, 80, 104, 128, 152, 176), 12, 25, 3);
    }

    private static void divided(String text, PlayedWritten x, int divisions, int leaves, int level) {
        Check.bars(text, x, text);
        Check.due(text + ", bar(0, 4)", x.bar(0, 4), divisions);
        Check.due(text + ", bar(0, 5)", x.bar(0, 5), leaves);
        Check.due(text + ", bar(0, 6)", x.bar(0, 6), level);
    }

    private static void barErrorsGraces() {
        Check.sentence("10: ERRORS of its STROKES together (7), its GRACES (8)");
        PlayedWritten none = inBars(1, 0);
        Check.due("no STROKES, ERRORS", none.bar(0, 7), 0);
        Check.due("no STROKES, GRACES", none.bar(0, 8), 0);
        PlayedWritten x = inBars(1, 0, 0, 7, 14, 21, 28, 35, 42, 49);
        Check.due("each but the first a GRACE", x.bar(0, 8), 7);
        Check.due("ERRORS", x.bar(0, 7), 216 * 7 * 28);
        PlayedWritten y = inBars(1, 0, 0, 6, 12, 18, 24, 30, 36, 42);
        Check.due("none a GRACE", y.bar(0, 8), 0);
        PlayedWritten early = inBars(2, 0, 210, 222);
        Check.due("early and late, not one against the other", early.bar(1, 7), 216 * 12);
        Check.due("a GRACE by 12 ticks", early.bar(1, 8), 1);
        Check.due("the BAR ahead, ERRORS", early.bar(0, 7), 0);
    }

    private static void barBad() {
        Check.sentence("10: BAD");
        PlayedWritten x = Check.with(5);
        for (int what : new int[] {-1, 9, MIN, MAX}) {
            Check.bad(x, "bar(0, " + what + ")", () -> x.bar(0, what));
            Check.bad(x, "bar(1, " + what + ")", () -> x.bar(1, what));
        }
        Check.bad(x, "both wrong, once", () -> x.bar(2, 9));
        Check.still(x, 216, "the least", () -> x.bar(0, 0));
        Check.still(x, 0, "the greatest", () -> x.bar(1, 8));
    }

    private static void barNone() {
        Check.sentence("10: BAD: it has no such BAR, too");
        for (int bars = 1; bars <= 3; bars++) {
            PlayedWritten x = inBars(bars, 2, 5);
            int last = bars - 1;
            Check.still(x, 216 * last, "the last of " + bars, () -> x.bar(last, 1));
            for (int b : new int[] {-1, bars, 3, 4, MIN, MAX}) {
                Check.bad(x, "bar(" + b + ", 0) of " + bars, () -> x.bar(b, 0));
            }
        }
        PlayedWritten x = inBars(3, 2);
        Check.due("a third BAR", x.bar(2, 5), 1);
        x.sets(0, 2);
        Check.bad(x, "no third BAR any more", () -> x.bar(2, 5));
        x.back();
        Check.due("a third BAR again", x.bar(2, 5), 1);
    }

    private static void fact(String name, PlayedWritten x, int what, int... want) {
        for (int k = 0; k < want.length; k++) {
            Check.due(name + ", written(" + k + ", " + what + ")", x.written(k, what), want[k]);
        }
    }

    private static void writtenBar() {
        Check.sentence("11: its BAR (what 0)");
        fact("one, one, six", inBars(3, 0, 0, 216, 432, 432, 432, 432, 432, 432), 0, 0, 1, 2, 2, 2, 2, 2, 2);
        fact("the only BAR", inBars(1, 0, 1999), 0, 0);
        fact("far behind the last", inBars(3, 0, 1999), 0, 2);
    }

    private static void writtenPlace() {
        Check.sentence("11: where it is written (1: a of 216)");
        fact("at 0", free(3, 0), 1, 0);
        fact("the first place", free(3, 8), 1, 8);
        fact("the last place", free(3, 208), 1, 208);
        fact("behind the last place", free(3, 215), 1, 208);
        fact("the last place by DEPTH 2", free(2, 215), 1, 192);
        fact("the last place by DEPTH 1", free(1, 215), 1, 144);
        fact("the last place by DEPTH 0", free(0, 215), 1, 0);
    }

    private static void writtenError() {
        Check.sentence("11: ERROR (2)");
        fact("none, early, late", inBars(3, 0, 0, 215, 433), 2, 0, 216, 216);
        fact("the greatest", inBars(1, 0, 1999), 2, 1999 * 216);
        PlayedWritten x = free(3, 2);
        x.sets(1, 55);
        // Written at 8 of 216 in a BAR of 55 ticks: 440 against 432.
        fact("less than a tick", x, 2, 8);
    }

    private static void writtenTogether() {
        Check.sentence("11: how many are written in its LEAF (3)");
        fact("all eight", inBars(1, 0, 0, 1, 2, 3, 4, 5, 6, 1999), 3, 8, 8, 8, 8, 8, 8, 8, 8);
        fact("alone", inBars(2, 0, 0, 216), 3, 1, 1);
    }

    private static void writtenGrace() {
        Check.sentence("11: whether it is a GRACE (4)");
        fact("by 7 ticks, not by 6", inBars(1, 0, 20, 26, 33), 4, 0, 0, 1);
        fact("not the first of a LEAF", inBars(2, 0, 0, 216, 223), 4, 0, 0, 1);
    }

    private static void writtenLevel() {
        Check.sentence("11: LEVEL of its LEAF (5)");
        fact("LEVEL 0", free(3, 0), 5, 0);
        fact("LEVEL 1", free(3, 108), 5, 1);
        fact("LEVEL 2", free(3, 54), 5, 2);
        fact("LEVEL 3", free(3, 27), 5, 3);
        fact("<1<1<11>>>", played("<1<1<11>>>"), 5, 1, 2, 3, 3);
        fact("<<<11>1>1>", played("<<<11>1>1>"), 5, 3, 3, 2, 1);
        fact("{{{111}11}11}", played("{{{111}11}11}"), 5, 3, 3, 3, 2, 2, 1, 1);
        fact("{11{11{111}}}", played("{11{11{111}}}"), 5, 1, 1, 2, 2, 3, 3, 3);
        fact("[1[1[11]]]", played("[1[1[11]]]"), 5, 1, 2, 3, 3);
    }

    /** What a TEXT tells, where its own divisions are the cheapest ones that have no ERROR. */
    private static PlayedWritten played(String text) {
        PlayedWritten x = new PlayedWritten();
        int own = "[<{".indexOf(text.charAt(0));
        Check.set(x, 1, 216, 0, 3, own == 0 ? 1 : 99, own == 1 ? 1 : 99, own == 2 ? 1 : 99, 99, 2, 0);
        Check.types(x, text);
        x.plays();
        Check.bars(text, x, text);
        return x;
    }

    private static void writtenBad() {
        Check.sentence("11: BAD");
        PlayedWritten x = Check.with(0, 10, 20, 30, 40, 50, 60, 70);
        for (int k : new int[] {-1, 8, MIN, MAX}) {
            Check.bad(x, "written(" + k + ", 0)", () -> x.written(k, 0));
            Check.bad(x, "written(" + k + ", 5)", () -> x.written(k, 5));
        }
        for (int what : new int[] {-1, 6, MIN, MAX}) {
            Check.bad(x, "written(0, " + what + ")", () -> x.written(0, what));
            Check.bad(x, "written(7, " + what + ")", () -> x.written(7, what));
        }
        Check.bad(x, "both wrong, once", () -> x.written(8, 6));
        Check.still(x, 0, "the least", () -> x.written(0, 0));
        PlayedWritten none = new PlayedWritten();
        Check.bad(none, "written(0, 0) of none", () -> none.written(0, 0));
        PlayedWritten one = Check.with(0);
        Check.still(one, 0, "the greatest of one", () -> one.written(0, 5));
        Check.bad(one, "written(1, 0) of one", () -> one.written(1, 0));
    }

    private static void shownByte() {
        Check.sentence("12: Byte i of BAR b of it as a text");
        PlayedWritten x = free(3, 8, 32, 56, 80, 104, 128, 152, 176);
        Check.still(x, '{', "the first", () -> x.shown(0, 0));
        Check.still(x, '}', "the last of the longest", () -> x.shown(0, 48));
        for (int many = 1; many <= 8; many++) {
            PlayedWritten y = inBars(1, 0);
            y.draws(5, many);
            Check.due("figure " + many, y.shown(0, 0), '0' + many);
            Check.due("behind figure " + many, y.shown(0, 1), NONE);
        }
        PlayedWritten three = inBars(3, 0, 432);
        Check.due("no figure", three.shown(0, 0), '-');
        Check.due("no figure", three.shown(1, 0), '-');
        Check.due("the third BAR", three.shown(2, 0), '1');
    }

    private static void shownNone() {
        Check.sentence("12: NONE: not so many");
        PlayedWritten x = free(3, 8, 32, 56, 80, 104, 128, 152, 176);
        for (int i : new int[] {49, 50, 63, 64, 65, 1000, MAX}) {
            Check.still(x, NONE, "shown(0, " + i + ")", () -> x.shown(0, i));
        }
        PlayedWritten none = new PlayedWritten();
        Check.still(none, '-', "shown(1, 0)", () -> none.shown(1, 0));
        Check.still(none, NONE, "shown(1, 1)", () -> none.shown(1, 1));
        // A shorter text in the room of a longer one.
        x.draws(1, 0);
        Check.due("shorter now", x.shown(0, 0), '-');
        Check.due("not so many now", x.shown(0, 1), NONE);
    }

    private static void shownBad() {
        Check.sentence("12: BAD: i below 0, too");
        for (int bars = 1; bars <= 3; bars++) {
            PlayedWritten x = inBars(bars, 2, 5);
            for (int b : new int[] {-1, bars, MIN, MAX}) {
                Check.bad(x, "shown(" + b + ", 0) of " + bars, () -> x.shown(b, 0));
                Check.bad(x, "shown(" + b + ", MAX) of " + bars, () -> x.shown(b, MAX));
                Check.bad(x, "both wrong, once", () -> x.shown(b, -1));
            }
            Check.bad(x, "shown(0, -1)", () -> x.shown(0, -1));
            Check.bad(x, "shown(0, MIN)", () -> x.shown(0, MIN));
        }
    }

    private static void counts(String when, PlayedWritten x, int... want) {
        for (int what = 0; what < want.length; what++) {
            int number = what;
            Check.still(x, want[what], when + ", count(" + what + ")", () -> x.count(number));
        }
    }

    private static void countEach() {
        Check.sentence("13: divisions by HALVES (what 0) .. LEAVES with STROKES (6)");
        counts("nothing", inBars(3, 3), 0, 0, 0, 0, 0, 0, 0);
        counts("eight in one LEAF", inBars(1, 0, 0, 0, 0, 0, 0, 0, 0, 0), 0, 0, 0, 0, 8, 0, 1);
        counts("seven GRACES", inBars(1, 0, 0, 7, 14, 21, 28, 35, 42, 49), 0, 0, 0, 7, 1, 0, 1);
        counts("eight LEAVES", free(3, 8, 32, 56, 80, 104, 128, 152, 176), 0, 0, 12, 0, 8, 0, 8);
        PlayedWritten x = inBars(3, 0, 456, 888);
        x.sets(1, 432);
        x.sets(2, 24);
        x.sets(8, 0);
        Check.due("longer, LENGTH", x.bar(1, 0), 432);
        counts("24 to the first, 24 to the second, 24 to the third", x, 0, 0, 0, 0, 2, 72, 2);
        x = inBars(2, 0, 456);
        x.sets(1, 432);
        x.sets(2, 24);
        x.sets(8, 0);
        counts("the greatest change: 24, then 48", x, 0, 0, 0, 0, 1, 72, 1);
        // Each number is that of the writing as it is now, and begins at nothing again.
        PlayedWritten y = Check.with(0, 7, 54, 110, 216, 300);
        counts("six", y, 2, 0, 1, 1, 3, 0, 5);
        y.draws(0, 0);
        counts("none now", y, 0, 0, 0, 0, 0, 0, 0);
        y.back();
        counts("six again", y, 2, 0, 1, 1, 3, 0, 5);
    }

    private static void countBad() {
        Check.sentence("13: BAD");
        PlayedWritten x = Check.with(5, 6);
        for (int what : new int[] {-1, 7, MIN, MAX}) {
            Check.bad(x, "count(" + what + ")", () -> x.count(what));
        }
    }
}
