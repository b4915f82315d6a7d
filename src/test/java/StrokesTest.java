import java.math.BigInteger;
import java.util.Arrays;

/** Promises 1 to 8: a new object, strokes and settings. */
public final class StrokesTest {
    private static final int MIN = Integer.MIN_VALUE, MAX = Integer.MAX_VALUE;
    private static final int[] AT_FIRST = {2, 216, 0, 2, 4, 10, 8, 6, 2, 6};
    private static final int[] LEAST = {1, 48, 0, 0, 0, 0, 0, 0, 0, 0};
    private static final int[] GREATEST = {3, 432, 24, 3, 99, 99, 99, 99, 99, 50};

    public static void main(String[] args) {
        newObject();
        strikes();
        strikesRefused();
        lifts();
        moves();
        draws();
        drawsRefused();
        shifts();
        sets();
        time();
        Check.end("StrokesTest");
    }

    private static void times(String when, PlayedWritten x, int... want) {
        Check.due(when + ", told(3)", x.told(3), want.length);
        for (int k = 0; k < want.length; k++) {
            Check.due(when + ", time(" + k + ")", x.time(k), want[k]);
        }
    }

    private static void newObject() {
        PlayedWritten x = new PlayedWritten();
        for (int what = 0; what < 4; what++) {
            Check.due("new, told(" + what + ")", x.told(what), 0);
        }
        for (int what = 0; what < 10; what++) {
            Check.due("new, setting " + what, x.told(4 + what), AT_FIRST[what]);
        }
        Check.due("new, told(14)", x.told(14), 0);
        Check.due("new, told(15)", x.told(15), 0);
        Check.due("new, cost()", x.cost(), 0);
        Check.due("new, shown", Check.shown(x, 0) + Check.shown(x, 1), "--");
        Check.due("new, back()", x.back(), PlayedWritten.NO);
        // Nothing is shared between objects.
        PlayedWritten y = new PlayedWritten();
        x.strikes(5);
        x.sets(0, 3);
        x.type('1');
        times("another object", y);
        Check.due("another object, BARS", y.told(4), 2);
        Check.due("another object, NO", y.told(1), 0);
        Check.due("another object, TEXT", y.told(14), 0);
    }

    private static void strikes() {
        PlayedWritten x = new PlayedWritten();
        Check.due("strikes(1999)", x.strikes(1999), 0);
        Check.due("strikes(0)", x.strikes(0), 0);
        Check.due("strikes(700)", x.strikes(700), 1);
        Check.due("strikes(700) again", x.strikes(700), 2);
        Check.due("strikes(0) again", x.strikes(0), 1);
        Check.due("strikes(1999) again", x.strikes(1999), 5);
        Check.due("strikes(699)", x.strikes(699), 2);
        Check.due("strikes(701)", x.strikes(701), 5);
        times("8 struck", x, 0, 0, 699, 700, 700, 701, 1999, 1999);
        Check.due("STATES of 8 strikes", x.told(15), 8);
        Check.due("a ninth", x.strikes(1), PlayedWritten.FULL);
        Check.due("BAD ahead of FULL", x.strikes(2000), PlayedWritten.BAD);
        Check.due("FULLs", x.told(2), 1);
        Check.due("BADs", x.told(0), 1);
        times("refused", x, 0, 0, 699, 700, 700, 701, 1999, 1999);
    }

    private static void strikesRefused() {
        PlayedWritten x = new PlayedWritten();
        for (int t : new int[] {-1, 2000, MIN, MAX}) {
            Check.due("strikes(" + t + ")", x.strikes(t), PlayedWritten.BAD);
        }
        times("nothing struck", x);
        Check.due("BADs", x.told(0), 4);
        Check.due("no STATES", x.told(15), 0);
    }

    private static void lifts() {
        PlayedWritten x = new PlayedWritten();
        Check.due("lifts(0) of none", x.lifts(0), PlayedWritten.BAD);
        x = Check.with(10, 20, 30, 40);
        Check.due("lifts(-1)", x.lifts(-1), PlayedWritten.BAD);
        Check.due("lifts(4)", x.lifts(4), PlayedWritten.BAD);
        Check.due("lifts(MIN)", x.lifts(MIN), PlayedWritten.BAD);
        Check.due("lifts(MAX)", x.lifts(MAX), PlayedWritten.BAD);
        Check.due("STATES", x.told(15), 4);
        Check.due("lifts(1)", x.lifts(1), 3);
        times("lifted the second", x, 10, 30, 40);
        Check.due("lifts(2)", x.lifts(2), 2);
        Check.due("lifts(0)", x.lifts(0), 1);
        times("lifted both ends", x, 30);
        Check.due("lifts the last", x.lifts(0), 0);
        times("none left", x);
        Check.due("STATES", x.told(15), 8);
        x.back();
        times("back", x, 30);
    }

    private static void moves() {
        PlayedWritten x = Check.with(10, 20, 20, 30);
        Check.due("behind those of like TIME", x.moves(0, 20), 2);
        times("moved", x, 20, 20, 20, 30);
        Check.due("to its own TIME", x.moves(0, 20), 2);
        Check.due("STATES, though nothing is otherwise", x.told(15), 6);
        Check.due("to the front", x.moves(3, 0), 0);
        Check.due("to the end", x.moves(1, 1999), 3);
        times("moved", x, 0, 20, 20, 1999);
        int[][] wrong = {{-1, 5}, {4, 5}, {0, -1}, {0, 2000}, {MIN, 0}, {MAX, 0}, {0, MIN}, {0, MAX}};
        for (int[] w : wrong) {
            Check.due("moves(" + w[0] + ", " + w[1] + ")", x.moves(w[0], w[1]), PlayedWritten.BAD);
        }
        Check.due("BADs", x.told(0), wrong.length);
        Check.due("STATES", x.told(15), 8);
        times("refused", x, 0, 20, 20, 1999);
        for (int t = 4; t < 8; t++) {
            x.strikes(t);
        }
        Check.due("8 STROKES may be moved", x.moves(0, 1), 0);
    }

    private static void draws() {
        int[][] cases = {{0, 8, 2, 216}, {999999, 8, 3, 432}, {4, 8, 2, 216}, {77, 1, 1, 48}, {5, 0, 2, 216}};
        for (int[] c : cases) {
            PlayedWritten x = Check.with(1, 2, 3);
            x.sets(0, c[2]);
            x.sets(1, c[3]);
            int[] want = new int[c[1]];
            BigInteger number = BigInteger.valueOf(c[0]);
            for (int i = 0; i < want.length; i++) {
                number = number.multiply(BigInteger.valueOf(1103515245)).add(BigInteger.valueOf(12345))
                        .mod(BigInteger.valueOf(2147483648L));
                want[i] = number.divide(BigInteger.valueOf(65536)).intValueExact() % (c[2] * c[3]);
            }
            Check.due("draws(" + c[0] + ", " + c[1] + ")", x.draws(c[0], c[1]), Arrays.stream(want).sum());
            Arrays.sort(want);
            times("drawn", x, want);
            Check.due("STATES", x.told(15), 6);
            x.back();
            times("back", x, 1, 2, 3);
        }
    }

    private static void drawsRefused() {
        PlayedWritten x = Check.with(7);
        int[][] wrong = {{-1, 3}, {1000000, 3}, {0, -1}, {0, 9}, {MIN, 0}, {MAX, 0}, {0, MIN}, {0, MAX}};
        for (int[] w : wrong) {
            Check.due("draws(" + w[0] + ", " + w[1] + ")", x.draws(w[0], w[1]), PlayedWritten.BAD);
        }
        Check.due("BADs", x.told(0), wrong.length);
        times("refused", x, 7);
        Check.due("STATES", x.told(15), 1);
    }

    private static void shifts() {
        PlayedWritten x = Check.with(0, 3, 500, 1500, 1999);
        Check.due("shifts(0)", x.shifts(0), 0);
        Check.due("STATES of shifts(0)", x.told(15), 6);
        Check.due("shifts(500)", x.shifts(500), 4);
        times("later", x, 500, 503, 1000, 1999, 1999);
        Check.due("shifts(-500)", x.shifts(-500), 5);
        times("earlier", x, 0, 3, 500, 1499, 1499);
        Check.due("shifts(-5)", x.shifts(-5), 4);
        times("below 0", x, 0, 0, 495, 1494, 1494);
        for (int v : new int[] {-501, 501, MIN, MAX}) {
            Check.due("shifts(" + v + ")", x.shifts(v), PlayedWritten.BAD);
        }
        Check.due("BADs", x.told(0), 4);
        Check.due("STATES", x.told(15), 8);
        x.back();
        times("back", x, 0, 3, 500, 1499, 1499);
        Check.due("shifts without STROKES", new PlayedWritten().shifts(9), 0);
    }

    private static void sets() {
        PlayedWritten x = new PlayedWritten();
        for (int what = 0; what < 10; what++) {
            int bads = x.told(0);
            Check.due("least of " + what, x.sets(what, LEAST[what]), AT_FIRST[what]);
            Check.due("greatest of " + what, x.sets(what, GREATEST[what]), LEAST[what]);
            for (int v : new int[] {LEAST[what] - 1, GREATEST[what] + 1, MIN, MAX}) {
                Check.due("sets(" + what + ", " + v + ")", x.sets(what, v), PlayedWritten.BAD);
            }
            Check.due("setting " + what, x.told(4 + what), GREATEST[what]);
            Check.due("BADs", x.told(0), bads + 4);
            Check.due("back()", x.back(), x.told(15));
            Check.due("setting " + what + " back", x.told(4 + what), LEAST[what]);
            x.back();
            Check.due("setting " + what + " at first", x.told(4 + what), AT_FIRST[what]);
            Check.due("no STATES", x.told(15), 0);
        }
        for (int what : new int[] {-1, 10, MIN, MAX}) {
            Check.due("sets(" + what + ", 2)", x.sets(what, 2), PlayedWritten.BAD);
        }
        Check.due("STATES", x.told(15), 0);
        Check.due("to what it is", x.sets(3, 2), 2);
        Check.due("STATES, though nothing is otherwise", x.told(15), 1);
        x.sets(2, 24);
        x.sets(1, 48);
        Check.due("BEND stays", x.told(6), 24);
        Check.due("the shortest BAR", x.bent(24), 0);
        x.strikes(1999);
        x.sets(0, 1);
        times("STROKES stay, whatever BARS is", x, 1999);
    }

    private static void time() {
        PlayedWritten x = Check.with(1999, 0);
        Check.due("time(0)", x.time(0), 0);
        Check.due("time(1)", x.time(1), 1999);
        for (int k : new int[] {-1, 2, MIN, MAX}) {
            Check.due("time(" + k + ")", x.time(k), PlayedWritten.BAD);
        }
        Check.due("BADs", x.told(0), 4);
        Check.due("time(0) of none", new PlayedWritten().time(0), PlayedWritten.BAD);
    }
}
