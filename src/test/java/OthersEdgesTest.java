/** Promises 14 to 17, each sentence that names an edge by itself. */
public final class OthersEdgesTest {
    private static final int MIN = Check.MIN, MAX = Check.MAX;
    private static final int NONE = PlayedWritten.NONE, NO = PlayedWritten.NO;

    public static void main(String[] args) {
        bentNumbers();
        bentBad();
        bentOfNothing();
        forcedLeaf();
        forcedDivided();
        forcedNo();
        forcedBad();
        withoutEnds();
        withoutTheOnlyOne();
        withoutBad();
        exactOfNothing();
        exactNone();
        exactEight();
        Check.end("OthersEdgesTest");
    }

    private static PlayedWritten plain(int bars, int length, int depth, int... times) {
        PlayedWritten x = Check.with(times);
        Check.set(x, bars, length, 0, depth);
        return x;
    }

    private static void bentNumbers() {
        Check.sentence("14: COST of the best WRITING, if BEND were v (0 .. 24)");
        PlayedWritten x = plain(2, 48, 0, 24);
        x.sets(8, 0);
        Check.still(x, 216 * 24, "bent(0)", () -> x.bent(0));
        Check.still(x, 216 * 23, "bent(1)", () -> x.bent(1));
        Check.still(x, 216, "bent(23)", () -> x.bent(23));
        Check.still(x, 0, "bent(24), the shortest BAR", () -> x.bent(24));
        PlayedWritten y = plain(2, 432, 0, 456);
        y.sets(8, 0);
        Check.still(y, 216 * 24, "bent(0)", () -> y.bent(0));
        Check.still(y, 0, "bent(24), the longest BAR", () -> y.bent(24));
        y.sets(2, 24);
        Check.still(y, 216 * 24, "bent(0), where BEND is 24", () -> y.bent(0));
        Check.still(y, 0, "cost() still by BEND", y::cost);
        Check.due("BEND still", y.told(6), 24);
    }

    private static void bentBad() {
        Check.sentence("14: BAD");
        PlayedWritten x = plain(2, 48, 0, 24);
        for (int v : new int[] {-1, 25, MIN, MAX}) {
            Check.bad(x, "bent(" + v + ")", () -> x.bent(v));
        }
        Check.due("BEND still", x.told(6), 0);
    }

    private static void bentOfNothing() {
        Check.sentence("14: COST of the best WRITING (no STROKES)");
        PlayedWritten x = new PlayedWritten();
        Check.still(x, 0, "bent(0)", () -> x.bent(0));
        Check.still(x, 0, "bent(24)", () -> x.bent(24));
    }

    private static void forcedLeaf() {
        Check.sentence("15: if each BAR itself had to be a LEAF (way 0)");
        for (int depth = 0; depth <= 3; depth++) {
            PlayedWritten x = plain(1, 216, depth, 108);
            Check.still(x, 216 * 108, "forced(0) at DEPTH " + depth, () -> x.forced(0));
        }
        PlayedWritten none = plain(3, 216, 0);
        Check.still(none, 0, "no STROKES", () -> none.forced(0));
    }

    private static void forcedDivided() {
        Check.sentence("15: divided by HALVES (1), SWING (2), THIRDS (3)");
        PlayedWritten x = plain(3, 216, 1);
        Check.still(x, 216 * 3 * 4, "forced(1) of 3 BARS without STROKES", () -> x.forced(1));
        Check.still(x, 216 * 3 * 10, "forced(2)", () -> x.forced(2));
        Check.still(x, 216 * 3 * 8, "forced(3)", () -> x.forced(3));
        Check.set(x, 3, 216, 0, 3, 99, 99, 99);
        for (int way = 1; way <= 3; way++) {
            Check.due("as dear as can be", x.forced(way), 216 * 3 * 99);
        }
        Check.set(x, 3, 216, 0, 3, 0, 0, 0);
        for (int way = 1; way <= 3; way++) {
            Check.due("free", x.forced(way), 0);
        }
        PlayedWritten one = plain(1, 216, 1, 27);
        Check.due("DEPTH 1: no division more", one.forced(1), 216 * (4 + 27));
        one.sets(3, 3);
        one.sets(4, 0);
        Check.due("DEPTH 3: its parts are free", one.forced(1), 0);
    }

    private static void forcedNo() {
        Check.sentence("15: NO: it is not 0, and DEPTH is");
        PlayedWritten x = plain(2, 216, 0, 5);
        for (int way = 1; way <= 3; way++) {
            int forced = way;
            Check.refused(x, NO, "forced(" + way + ")", () -> x.forced(forced));
        }
        Check.still(x, 216 * 5, "forced(0)", () -> x.forced(0));
        x.sets(3, 1);
        for (int way = 1; way <= 3; way++) {
            Check.holds("forced(" + way + ") at DEPTH 1", x.forced(way) > 0);
        }
        Check.due("NOs", x.told(1), 3);
    }

    private static void forcedBad() {
        Check.sentence("15: BAD");
        for (int depth = 0; depth <= 3; depth++) {
            PlayedWritten x = plain(2, 216, depth, 5);
            for (int way : new int[] {-1, 4, MIN, MAX}) {
                Check.bad(x, "BAD ahead of NO, forced(" + way + ")", () -> x.forced(way));
            }
            Check.due("NOs", x.told(1), 0);
        }
    }

    private static void withoutEnds() {
        Check.sentence("16: COST of the best WRITING without STROKE k");
        PlayedWritten x = plain(1, 216, 0, 0, 6, 12, 18, 24, 30, 36, 42);
        Check.still(x, 216 * 168, "the first of 8", () -> x.without(0));
        Check.still(x, 216 * (168 - 6 + 6), "the second: the third is a GRACE then", () -> x.without(1));
        Check.still(x, 216 * (168 - 42), "the last of 8", () -> x.without(7));
        Check.due("eight still", x.told(3), 8);
        Check.due("the last still", x.time(7), 42);
    }

    private static void withoutTheOnlyOne() {
        Check.sentence("16: COST of the best WRITING without STROKE k (the only one)");
        PlayedWritten x = plain(3, 216, 3, 1999);
        Check.still(x, 0, "without(0)", () -> x.without(0));
    }

    private static void withoutBad() {
        Check.sentence("16: BAD");
        for (int many : new int[] {0, 1, 8}) {
            PlayedWritten x = new PlayedWritten();
            x.draws(6, many);
            for (int k : new int[] {-1, many, 8, MIN, MAX}) {
                Check.bad(x, "without(" + k + ") of " + many, () -> x.without(k));
            }
        }
    }

    private static void exactOfNothing() {
        Check.sentence("17: The least COST of any WRITING in which no STROKE has an ERROR (no STROKES)");
        PlayedWritten x = plain(3, 48, 0);
        Check.still(x, 0, "exact()", x::exact);
        Check.set(x, 3, 432, 24, 3, 99, 99, 99, 99, 99, 50);
        Check.still(x, 0, "exact()", x::exact);
    }

    private static void exactNone() {
        Check.sentence("17: NONE: there is none");
        PlayedWritten x = plain(2, 216, 0, 1);
        Check.still(x, NONE, "a tick late", x::exact);
        PlayedWritten early = plain(2, 216, 0, 215);
        Check.still(early, NONE, "a tick early", early::exact);
        PlayedWritten behind = plain(3, 432, 3, 1999);
        Check.still(behind, NONE, "behind all BARS", behind::exact);
        // 8 of 216 in 55 ticks is 440 against 432: an ERROR that is less than a tick.
        PlayedWritten near = plain(1, 55, 3, 2);
        Check.still(near, NONE, "less than a tick", near::exact);
        PlayedWritten last = plain(1, 216, 3, 208);
        Check.still(last, 216 * 24, "the last place there is", last::exact);
        last.moves(0, 209);
        Check.still(last, NONE, "behind the last place", last::exact);
        last.moves(0, 208);
        last.sets(3, 2);
        Check.still(last, NONE, "too deep", last::exact);
    }

    private static void exactEight() {
        Check.sentence("17: no STROKE has an ERROR (8 STROKES)");
        PlayedWritten x = plain(1, 216, 3, 8, 32, 56, 80, 104, 128, 152, 176);
        Check.still(x, 216 * 12 * 8, "exact()", x::exact);
        Check.set(x, 1, 216, 0, 3, 99, 99, 99, 99, 99, 0);
        Check.due("as dear as can be", x.exact(), 216 * 12 * 99);
        Check.holds("cost() is less", x.cost() < 216 * 12 * 99);
        x.moves(7, 177);
        Check.still(x, NONE, "all but one", x::exact);
    }
}
