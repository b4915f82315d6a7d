/** Promises 14 to 17: what other writings would cost, in numbers that were worked out by hand. */
public final class OthersTest {
    private static final int MIN = Integer.MIN_VALUE, MAX = Integer.MAX_VALUE;

    public static void main(String[] args) {
        bent();
        forced();
        without();
        exact();
        changeNothing();
        Check.end("OthersTest");
    }

    /** Two STROKES as if the first BAR were 220 ticks long, where 200 are told. */
    private static PlayedWritten late(int change) {
        PlayedWritten x = Check.with(0, 220);
        x.sets(3, 0);
        x.sets(1, 200);
        x.sets(8, change);
        return x;
    }

    private static void bent() {
        PlayedWritten x = late(0);
        Check.due("bent(0)", x.bent(0), 20 * 216);
        Check.due("bent(19)", x.bent(19), 216);
        Check.due("bent(20)", x.bent(20), 0);
        Check.due("bent(24)", x.bent(24), 4 * 216);
        Check.due("BEND stays", x.told(6), 0);
        Check.due("cost() stays", x.cost(), 20 * 216);
        for (int v : new int[] {-1, 25, MIN, MAX}) {
            Check.due("bent(" + v + ")", x.bent(v), PlayedWritten.BAD);
        }
        Check.due("BADs", x.told(0), 4);
        x.sets(2, 20);
        Check.due("without bending", x.bent(0), 20 * 216);
        Check.due("as it is", x.bent(20), x.cost());
        PlayedWritten y = late(1);
        Check.due("CHANGE as dear", y.bent(20), 20 * 216);
        Check.due("CHANGE as dear", y.bent(10), 20 * 216);
        PlayedWritten z = late(2);
        Check.due("CHANGE too dear", z.bent(20), 20 * 216);
    }

    private static void forced() {
        PlayedWritten x = new PlayedWritten();
        Check.due("forced(0)", x.forced(0), 0);
        Check.due("forced(1)", x.forced(1), 2 * 4 * 216);
        Check.due("forced(2)", x.forced(2), 2 * 10 * 216);
        Check.due("forced(3)", x.forced(3), 2 * 8 * 216);
        x.sets(0, 3);
        Check.due("each of three BARS", x.forced(1), 3 * 4 * 216);
        x.sets(0, 1);
        x.sets(3, 1);
        x.strikes(0);
        x.strikes(36);
        Check.due("a LEAF", x.forced(0), (36 + 6) * 216);
        Check.due("HALVES of LEAVES", x.forced(1), (4 + 36 + 6) * 216);
        Check.due("THIRDS of LEAVES", x.forced(3), (8 + 36) * 216);
        x.sets(3, 2);
        Check.due("its parts are free", x.forced(1), (4 + 8) * 216);
        Check.due("a LEAF, whatever DEPTH is", x.forced(0), (36 + 6) * 216);
        x.sets(3, 3);
        Check.due("a LEAF, whatever DEPTH is", x.forced(0), (36 + 6) * 216);
        x.sets(3, 0);
        for (int way = 1; way < 4; way++) {
            Check.due("forced(" + way + ") at DEPTH 0", x.forced(way), PlayedWritten.NO);
        }
        Check.due("forced(0) at DEPTH 0", x.forced(0), (36 + 6) * 216);
        for (int way : new int[] {-1, 4, MIN, MAX}) {
            Check.due("BAD ahead of NO", x.forced(way), PlayedWritten.BAD);
        }
        Check.due("BADs", x.told(0), 4);
        Check.due("NOs", x.told(1), 3);
        PlayedWritten y = late(0);
        y.sets(2, 20);
        Check.due("bent and forced", y.forced(0), 0);
    }

    private static void without() {
        PlayedWritten x = Check.with(0, 7, 14);
        x.sets(0, 1);
        x.sets(3, 0);
        Check.due("cost()", x.cost(), (21 + 12) * 216);
        Check.due("without(0)", x.without(0), (21 + 6) * 216);
        Check.due("without(1)", x.without(1), (14 + 6) * 216);
        Check.due("without(2)", x.without(2), (7 + 6) * 216);
        Check.due("STROKES stay", x.told(3), 3);
        Check.due("cost() stays", x.cost(), (21 + 12) * 216);
        for (int k : new int[] {-1, 3, MIN, MAX}) {
            Check.due("without(" + k + ")", x.without(k), PlayedWritten.BAD);
        }
        Check.due("BADs", x.told(0), 4);
        // The one ahead of a STROKE is another then: near enough to sound with it, or too far.
        PlayedWritten y = Check.with(0, 6, 12);
        y.sets(0, 1);
        y.sets(3, 0);
        Check.due("cost()", y.cost(), 18 * 216);
        Check.due("without the middle", y.without(1), (12 + 6) * 216);
        PlayedWritten one = Check.with(50);
        Check.due("without the only one", one.without(0), 0);
        Check.due("of none", new PlayedWritten().without(0), PlayedWritten.BAD);
    }

    private static void exact() {
        Check.due("none", new PlayedWritten().exact(), 0);
        PlayedWritten x = Check.with(1);
        Check.due("no place for it", x.exact(), PlayedWritten.NONE);
        Check.due("NONE is not refused", x.told(0) + x.told(1) + x.told(2), 0);
        x.moves(0, 24);
        Check.due("by THIRDS twice", x.exact(), 16 * 216);
        Check.due("cost() may be less or like", x.cost(), 16 * 216);
        x.moves(0, 8);
        Check.due("too deep", x.exact(), PlayedWritten.NONE);
        x.sets(3, 3);
        Check.due("by THIRDS three times", x.exact(), 24 * 216);
        Check.due("cost() is less", x.cost(), 8 * 216);
        PlayedWritten y = late(2);
        Check.due("without bending", y.exact(), PlayedWritten.NONE);
        y.sets(2, 20);
        Check.due("by bending", y.exact(), 2 * 20 * 216);
        Check.due("cost() is less", y.cost(), 20 * 216);
        y.sets(2, 19);
        Check.due("by another BEND", y.exact(), PlayedWritten.NONE);
        PlayedWritten z = Check.with(216, 216, 216, 216, 216, 216, 216, 216);
        Check.due("eight at once", z.exact(), 0);
        z.moves(7, 432);
        Check.due("behind the last BAR", z.exact(), PlayedWritten.NONE);
        z.sets(0, 3);
        Check.due("in the third BAR", z.exact(), 0);
        z.sets(8, 99);
        z.sets(4, 99);
        z.moves(7, 540);
        Check.due("the dearest HALVES", z.exact(), 99 * 216);
    }

    private static void changeNothing() {
        PlayedWritten x = Check.with(3, 50, 111, 205, 290);
        x.sets(2, 7);
        long before = x.digest();
        x.bent(24);
        x.forced(2);
        x.without(2);
        x.exact();
        x.cost();
        x.time(0);
        Check.due("digest() stays", x.digest(), before);
    }
}
