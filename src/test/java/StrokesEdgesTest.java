import java.math.BigInteger;
import java.util.Arrays;

/** Promises 1 to 8, each sentence that names an edge by itself: the last number taken, the first refused. */
public final class StrokesEdgesTest {
    private static final int MIN = Check.MIN, MAX = Check.MAX;
    private static final int FULL = PlayedWritten.FULL;
    private static final String[] SETTINGS = {"BARS", "LENGTH", "BEND", "DEPTH", "HALVES", "SWING", "THIRDS",
        "GRACE", "CHANGE", "CHORD"};
    private static final int[] AT_FIRST = {2, 216, 0, 2, 4, 10, 8, 6, 2, 6};
    private static final int[] LEAST = {1, 48, 0, 0, 0, 0, 0, 0, 0, 0};
    private static final int[] GREATEST = {3, 432, 24, 3, 99, 99, 99, 99, 99, 50};

    public static void main(String[] args) {
        newObject();
        strikesTakesTimes();
        strikesBehindLike();
        strikesFull();
        liftsEnds();
        liftsBad();
        movesTakesTimes();
        movesAsNew();
        movesBad();
        drawsInsteadOfAll();
        drawsNumbers();
        drawsSeeds();
        drawsCutAndLeftOver();
        shiftsNumbers();
        shiftsBelowNothing();
        shiftsAboveTheLast();
        shiftsOtherwise();
        setsEachSetting();
        setsWhat();
        bendStays();
        time();
        Check.end("StrokesEdgesTest");
    }

    private static PlayedWritten eight() {
        return Check.with(0, 10, 20, 30, 40, 50, 60, 1999);
    }

    private static void newObject() {
        Check.sentence("1: As told; no STROKES");
        PlayedWritten x = new PlayedWritten();
        int[] want = {0, 0, 0, 0, 2, 216, 0, 2, 4, 10, 8, 6, 2, 6, 0, 0};
        for (int what = 0; what < want.length; what++) {
            Check.due("told(" + what + ")", x.told(what), want[what]);
        }
        Check.bad(x, "time(0)", () -> x.time(0));
        Check.refused(x, PlayedWritten.NO, "back()", x::back);
    }

    private static void strikesTakesTimes() {
        Check.sentence("2: A new STROKE at TIME t (0 .. 1999 ticks) .. BAD");
        PlayedWritten x = new PlayedWritten();
        for (int t : new int[] {-1, 2000, MIN, MAX}) {
            Check.bad(x, "strikes(" + t + ")", () -> x.strikes(t));
        }
        Check.times("none struck", x);
        Check.due("strikes(1999)", x.strikes(1999), 0);
        Check.due("strikes(0)", x.strikes(0), 0);
        Check.times("both ends", x, 0, 1999);
        for (int t : new int[] {-1, 2000, MIN, MAX}) {
            Check.bad(x, "strikes(" + t + ")", () -> x.strikes(t));
        }
        Check.times("both ends still", x, 0, 1999);
        Check.due("STATES", x.told(15), 2);
    }

    private static void strikesBehindLike() {
        Check.sentence("2: its number (behind those of like TIME)");
        for (int t : new int[] {0, 700, 1999}) {
            PlayedWritten x = new PlayedWritten();
            for (int k = 0; k < 8; k++) {
                Check.due("strikes(" + t + "), number " + k, x.strikes(t), k);
            }
        }
        PlayedWritten x = Check.with(0, 1, 1, 2, 1999);
        Check.due("behind two of like TIME", x.strikes(1), 3);
        Check.due("behind the first", x.strikes(0), 1);
        Check.due("behind the last", x.strikes(1999), 7);
        Check.times("all", x, 0, 0, 1, 1, 1, 2, 1999, 1999);
    }

    private static void strikesFull() {
        Check.sentence("2: FULL: there are 8");
        PlayedWritten x = Check.with(7, 6, 5, 4, 3, 2, 1);
        Check.due("the eighth", x.strikes(8), 7);
        for (int t : new int[] {0, 5, 1999}) {
            Check.refused(x, FULL, "the ninth, strikes(" + t + ")", () -> x.strikes(t));
        }
        for (int t : new int[] {-1, 2000, MIN, MAX}) {
            Check.bad(x, "BAD ahead of FULL, strikes(" + t + ")", () -> x.strikes(t));
        }
        Check.times("eight", x, 1, 2, 3, 4, 5, 6, 7, 8);
        Check.due("FULLs", x.told(2), 3);
        x.lifts(0);
        Check.due("room again", x.strikes(0), 0);
        Check.refused(x, FULL, "full again", () -> x.strikes(0));
    }

    private static void liftsEnds() {
        Check.sentence("3: STROKE k goes: how many are left");
        PlayedWritten x = eight();
        Check.due("the last of 8", x.lifts(7), 7);
        Check.times("without the last", x, 0, 10, 20, 30, 40, 50, 60);
        Check.due("the first of 7", x.lifts(0), 6);
        Check.times("without the first", x, 10, 20, 30, 40, 50, 60);
        PlayedWritten one = Check.with(5);
        Check.due("the only one", one.lifts(0), 0);
        Check.times("none", one);
        Check.bad(one, "none to lift", () -> one.lifts(0));
    }

    private static void liftsBad() {
        Check.sentence("3: BAD");
        for (int many : new int[] {0, 1, 8}) {
            PlayedWritten x = new PlayedWritten();
            x.draws(3, many);
            for (int k : new int[] {-1, many, many + 1, MIN, MAX}) {
                Check.bad(x, "lifts(" + k + ") of " + many, () -> x.lifts(k));
            }
            Check.due("STROKES", x.told(3), many);
            Check.due("STATES", x.told(15), 1);
        }
    }

    private static void movesTakesTimes() {
        Check.sentence("4: STROKE k has TIME t");
        PlayedWritten x = eight();
        Check.due("the last to TIME 0", x.moves(7, 0), 1);
        Check.times("moved", x, 0, 0, 10, 20, 30, 40, 50, 60);
        Check.due("the first to TIME 1999", x.moves(0, 1999), 7);
        Check.times("moved", x, 0, 10, 20, 30, 40, 50, 60, 1999);
        PlayedWritten one = Check.with(5);
        Check.due("the only one", one.moves(0, 1999), 0);
        Check.times("moved", one, 1999);
    }

    private static void movesAsNew() {
        Check.sentence("4: (as if it had come anew): its number then");
        PlayedWritten x = Check.with(3, 3, 3, 3, 3, 3, 3, 3);
        Check.due("behind all of like TIME, of 8 too", x.moves(0, 3), 7);
        Check.due("behind all of like TIME", x.moves(4, 3), 7);
        Check.times("like as before", x, 3, 3, 3, 3, 3, 3, 3, 3);
        PlayedWritten y = Check.with(1, 2, 2, 3);
        Check.due("to like ones behind", y.moves(0, 2), 2);
        Check.due("to like ones ahead", y.moves(3, 2), 3);
        Check.times("moved", y, 2, 2, 2, 2);
        Check.due("a STATE each", y.told(15), 6);
    }

    private static void movesBad() {
        Check.sentence("4: BAD");
        int[][] wrong = {{-1, 5}, {8, 5}, {9, 5}, {MIN, 5}, {MAX, 5}, {0, -1}, {7, 2000}, {0, MIN}, {7, MAX},
            {-1, -1}, {8, 2000}, {MIN, MAX}};
        PlayedWritten x = eight();
        for (int[] w : wrong) {
            Check.bad(x, "moves(" + w[0] + ", " + w[1] + ")", () -> x.moves(w[0], w[1]));
        }
        Check.due("each once, both numbers wrong or one", x.told(0), wrong.length);
        Check.times("still", x, 0, 10, 20, 30, 40, 50, 60, 1999);
        PlayedWritten none = new PlayedWritten();
        Check.bad(none, "moves(0, 0) of none", () -> none.moves(0, 0));
    }

    private static void drawsInsteadOfAll() {
        Check.sentence("5: Instead of all STROKES there are n (0 .. 8) drawn ones");
        PlayedWritten x = eight();
        Check.due("none of eight", x.draws(1, 0), 0);
        Check.times("none", x);
        x.back();
        Check.times("eight back", x, 0, 10, 20, 30, 40, 50, 60, 1999);
        Check.due("eight instead of eight", x.draws(4, 8), 1871);
        Check.due("eight", x.told(3), 8);
        Check.due("one instead of eight", x.draws(0, 1), 0);
        Check.times("one", x, 0);
        Check.due("none of none, greatest seed", new PlayedWritten().draws(999999, 0), 0);
    }

    private static void drawsNumbers() {
        Check.sentence("5: n (0 .. 8) .. BAD");
        PlayedWritten x = Check.with(9);
        for (int n : new int[] {-1, 9, MIN, MAX}) {
            Check.bad(x, "draws(0, " + n + ")", () -> x.draws(0, n));
        }
        Check.bad(x, "both wrong, once", () -> x.draws(-1, 9));
        Check.times("still", x, 9);
        for (int n = 0; n <= 8; n++) {
            drawn(123456, n, 2, 216);
        }
    }

    private static void drawsSeeds() {
        Check.sentence("5: SEED (0 .. 999999) .. BAD");
        PlayedWritten x = Check.with(9);
        for (int seed : new int[] {-1, 1000000, MIN, MAX}) {
            Check.bad(x, "draws(" + seed + ", 0)", () -> x.draws(seed, 0));
            Check.bad(x, "draws(" + seed + ", 8)", () -> x.draws(seed, 8));
        }
        Check.times("still", x, 9);
        drawn(0, 8, 2, 216);
        drawn(1, 8, 2, 216);
        drawn(999999, 8, 2, 216);
    }

    /** Numbers without an end, so that nothing can wrap around but where the document says so. */
    private static int[] drawnTimes(int seed, int n, int ticks) {
        int[] times = new int[n];
        BigInteger number = BigInteger.valueOf(seed);
        for (int i = 0; i < n; i++) {
            number = number.multiply(BigInteger.valueOf(1103515245)).add(BigInteger.valueOf(12345))
                    .mod(BigInteger.valueOf(2147483648L));
            times[i] = number.divide(BigInteger.valueOf(65536)).mod(BigInteger.valueOf(ticks)).intValueExact();
        }
        return times;
    }

    private static void drawn(int seed, int n, int bars, int length) {
        PlayedWritten x = Check.with(3, 4);
        x.sets(0, bars);
        x.sets(1, length);
        int[] want = drawnTimes(seed, n, bars * length);
        String name = "draws(" + seed + ", " + n + ") in " + bars + " times " + length;
        Check.due(name, x.draws(seed, n), Arrays.stream(want).sum());
        Arrays.sort(want);
        Check.times(name, x, want);
    }

    private static void drawsCutAndLeftOver() {
        Check.sentence("5: TIME X by 65536 (cut), by BARS times LENGTH left over");
        // X is 12345 then, less than 65536.
        PlayedWritten x = new PlayedWritten();
        Check.due("cut to 0", x.draws(0, 1), 0);
        int[][] rooms = {{1, 48}, {2, 216}, {3, 432}};
        for (int[] room : rooms) {
            int ticks = room[0] * room[1];
            drawn(seedFor(ticks, 0), 8, room[0], room[1]);
            drawn(seedFor(ticks, ticks - 1), 8, room[0], room[1]);
            drawn(999999, 8, room[0], room[1]);
        }
        x.sets(0, 3);
        x.sets(1, 432);
        Check.due("the greatest TIME", x.draws(seedFor(1296, 1295), 1), 1295);
        Check.due("left over nothing", x.draws(seedFor(1296, 0), 1), 0);
        x.sets(0, 1);
        x.sets(1, 48);
        Check.due("the greatest TIME of the shortest", x.draws(seedFor(48, 47), 1), 47);
        Check.due("left over nothing of the shortest", x.draws(seedFor(48, 0), 1), 0);
    }

    /** A seed whose first TIME is so, from a quotient that is more than the ticks. */
    private static int seedFor(int ticks, int time) {
        for (int seed = 0; seed < 1000000; seed++) {
            if (drawnTimes(seed, 1, ticks)[0] == time && drawnTimes(seed, 1, 32768)[0] >= ticks) {
                return seed;
            }
        }
        throw new IllegalStateException("no seed for " + time);
    }

    private static void shiftsNumbers() {
        Check.sentence("6: v -500 .. 500 .. BAD");
        PlayedWritten x = Check.with(600, 700);
        for (int v : new int[] {-501, 501, MIN, MAX}) {
            Check.bad(x, "shifts(" + v + ")", () -> x.shifts(v));
        }
        Check.times("still", x, 600, 700);
        Check.due("shifts(500)", x.shifts(500), 2);
        Check.times("later", x, 1100, 1200);
        Check.due("shifts(-500)", x.shifts(-500), 2);
        Check.times("earlier", x, 600, 700);
        Check.due("shifts(0)", x.shifts(0), 0);
        Check.times("as they were", x, 600, 700);
        Check.due("a STATE each, by shifts(0) too", x.told(15), 5);
    }

    private static void shiftsBelowNothing() {
        Check.sentence("6: a TIME below 0 becomes 0");
        PlayedWritten x = Check.with(0, 1, 499, 500, 501);
        Check.due("shifts(-500)", x.shifts(-500), 4);
        Check.times("shifts(-500)", x, 0, 0, 0, 0, 1);
        Check.due("shifts(-1)", x.shifts(-1), 1);
        Check.times("shifts(-1)", x, 0, 0, 0, 0, 0);
        Check.due("shifts(-500) of all at 0", x.shifts(-500), 0);
    }

    private static void shiftsAboveTheLast() {
        Check.sentence("6: one above 1999 becomes that");
        PlayedWritten x = Check.with(1498, 1499, 1500, 1998, 1999);
        Check.due("shifts(500)", x.shifts(500), 4);
        Check.times("shifts(500)", x, 1998, 1999, 1999, 1999, 1999);
        Check.due("shifts(1)", x.shifts(1), 1);
        Check.times("shifts(1)", x, 1999, 1999, 1999, 1999, 1999);
        Check.due("shifts(500) of all at 1999", x.shifts(500), 0);
    }

    private static void shiftsOtherwise() {
        Check.sentence("6: how many TIMES are otherwise");
        PlayedWritten none = new PlayedWritten();
        Check.due("of none", none.shifts(500), 0);
        Check.due("a STATE", none.told(15), 1);
        PlayedWritten x = eight();
        Check.due("all but the last", x.shifts(1), 7);
        x.back();
        Check.due("all but the first", x.shifts(-1), 7);
        x.back();
        Check.times("back", x, 0, 10, 20, 30, 40, 50, 60, 1999);
    }

    private static void setsEachSetting() {
        for (int what = 0; what < 10; what++) {
            int setting = what;
            Check.sentence("7: " + SETTINGS[what] + " (" + LEAST[what] + " .. " + GREATEST[what] + "; "
                    + AT_FIRST[what] + ") becomes v: what it was");
            PlayedWritten x = Check.with(100, 120);
            Check.due("the least", x.sets(what, LEAST[what]), AT_FIRST[what]);
            Check.due("told", x.told(4 + what), LEAST[what]);
            Check.bad(x, "below the least", () -> x.sets(setting, LEAST[setting] - 1));
            Check.bad(x, "MIN", () -> x.sets(setting, MIN));
            Check.due("the greatest", x.sets(what, GREATEST[what]), LEAST[what]);
            Check.bad(x, "above the greatest", () -> x.sets(setting, GREATEST[setting] + 1));
            Check.bad(x, "MAX", () -> x.sets(setting, MAX));
            Check.due("as it is", x.sets(what, GREATEST[what]), GREATEST[what]);
            for (int other = 0; other < 10; other++) {
                Check.due(SETTINGS[other], x.told(4 + other), other == what ? GREATEST[what] : AT_FIRST[other]);
            }
            Check.due("a STATE each that is not refused", x.told(15), 5);
            Check.times("STROKES stay", x, 100, 120);
        }
    }

    private static void setsWhat() {
        Check.sentence("7: BARS (what 0) .. CHORD (9) .. BAD");
        PlayedWritten x = new PlayedWritten();
        for (int what : new int[] {-1, 10, MIN, MAX}) {
            Check.bad(x, "sets(" + what + ", 1)", () -> x.sets(what, 1));
            Check.bad(x, "sets(" + what + ", -1), once", () -> x.sets(what, -1));
        }
        Check.due("no STATES", x.told(15), 0);
    }

    private static void bendStays() {
        Check.sentence("7: (BEND stays, whatever LENGTH is.)");
        PlayedWritten x = new PlayedWritten();
        x.sets(2, 24);
        x.sets(8, 0);
        Check.due("the least LENGTH", x.sets(1, 48), 216);
        Check.due("BEND", x.told(6), 24);
        Check.due("a BAR of 48 less 24", x.bar(0, 0), 24);
        Check.due("the greatest LENGTH", x.sets(1, 432), 48);
        Check.due("BEND", x.told(6), 24);
        Check.due("a BAR of 432 less 24", x.bar(1, 0), 408);
    }

    private static void time() {
        Check.sentence("8: TIME of STROKE k. BAD");
        PlayedWritten x = eight();
        Check.still(x, 0, "the first", () -> x.time(0));
        Check.still(x, 1999, "the eighth", () -> x.time(7));
        for (int k : new int[] {-1, 8, MIN, MAX}) {
            Check.bad(x, "time(" + k + ")", () -> x.time(k));
        }
        x.lifts(7);
        Check.due("the seventh", x.time(6), 60);
        Check.bad(x, "the one that went", () -> x.time(7));
    }
}
