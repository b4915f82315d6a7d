/** What the promises rest on (512 calls, A WRITING, ERROR, GRACE, COST, likes, STATES), edge by edge. */
public final class TermsEdgesTest {
    private static final int BAD = PlayedWritten.BAD, NO = PlayedWritten.NO, FULL = PlayedWritten.FULL;

    public static void main(String[] args) {
        lastCall();
        manyRefusals();
        eightAtMost();
        numberedByTime();
        asManyBarsAsTold();
        threeLengths();
        dealtInOrder();
        leafAtItsBeginning();
        partsOfASpan();
        belowDepth();
        error();
        graceByChord();
        graceInTheSameLeaf();
        prices();
        change();
        likeFirstBar();
        likeStrokesInIt();
        likeSecondBar();
        likeThirdBar();
        likeKinds();
        likeParts();
        statesOfEachCall();
        noStatesOfOthers();
        noStatesOfRefused();
        eightStates();
        firstOfRefusals();
        Check.end("TermsEdgesTest");
    }

    private static PlayedWritten made(int[] times, int... settings) {
        PlayedWritten x = Check.with(times);
        Check.set(x, settings);
        return x;
    }

    private static int[] at(int... times) {
        return times;
    }

    /** 18 calls and 493 refused ones: the next is the 512th. */
    private static PlayedWritten old() {
        PlayedWritten x = Check.with(0, 54, 110, 216, 300);
        Check.types(x, "[11]<11>{111}");
        for (int n = 0; n < 493; n++) {
            x.time(5);
        }
        return x;
    }

    private static void lastCall() {
        Check.sentence("An object is used for at most 512 calls after it has been made");
        Check.due("strikes", old().strikes(7), 1);
        Check.due("lifts", old().lifts(4), 4);
        Check.due("moves", old().moves(0, 300), 4);
        Check.due("draws", old().draws(4, 8), 1871);
        Check.due("shifts", old().shifts(-1), 4);
        Check.due("sets", old().sets(1, 48), 216);
        Check.due("time", old().time(4), 300);
        Check.due("cost", old().cost(), 6480);
        Check.due("bar", old().bar(1, 7), 2592);
        Check.due("written", old().written(4, 1), 72);
        Check.due("shown", old().shown(1, 0), '{');
        Check.due("count", old().count(0), 2);
        Check.due("bent", old().bent(0), 6480);
        Check.due("forced", old().forced(1), 7344);
        Check.due("without", old().without(4), 2160);
        Check.due("exact", old().exact(), PlayedWritten.NONE);
        Check.due("type", old().type(' '), 14);
        Check.due("clear", old().clear(), 13);
        Check.due("plays", old().plays(), 7);
        Check.due("back", old().back(), 4);
        Check.due("told", old().told(0), 493);
        Check.due("digest", old().digest(), oldDigest());
    }

    private static long oldDigest() {
        int[] values = {493, 0, 0, 5, 2, 216, 0, 2, 4, 10, 8, 6, 2, 6, 13, 5, 0, 54, 110, 216, 300, 6480,
            216, 0, 0, 3, 2, 3, 2, 432, 0, 216, 216, 3, 2, 1, 3, 1, 2592, 0,
            0, 0, 0, 1, 0, 2, 0, 54, 0, 1, 0, 2, 0, 108, 432, 1, 0, 1, 1, 0, 0, 1, 0, 1, 1, 72, 2592, 1, 0, 1};
        long h = 1772;
        for (int v : values) {
            h = 31 * h + v;
        }
        return h;
    }

    private static void manyRefusals() {
        Check.sentence("at most 512 calls: how often refused");
        PlayedWritten x = new PlayedWritten();
        for (int n = 0; n < 511; n++) {
            x.lifts(0);
        }
        Check.due("BADs", x.told(0), 511);
        PlayedWritten y = new PlayedWritten();
        for (int n = 0; n < 511; n++) {
            y.back();
        }
        Check.due("NOs", y.told(1), 511);
        PlayedWritten z = new PlayedWritten();
        for (int n = 0; n < 511; n++) {
            z.strikes(n);
        }
        Check.due("FULLs", z.told(2), 503);
        PlayedWritten s = new PlayedWritten();
        for (int n = 0; n < 510; n++) {
            s.sets(1, 48 + n % 385);
        }
        s.back();
        Check.due("LENGTH ahead of the 510th", s.told(5), 48 + 508 % 385);
    }

    private static void eightAtMost() {
        Check.sentence("STROKES, 8 at most");
        PlayedWritten x = Check.with(1, 2, 3, 4, 5, 6, 7, 8);
        Check.refused(x, FULL, "a ninth", () -> x.strikes(9));
        Check.due("eight may be moved", x.moves(0, 9), 7);
        Check.due("eight may be shifted", x.shifts(1), 8);
        Check.due("eight may be drawn anew", x.draws(4, 8), 1871);
        Check.bad(x, "nine may not be drawn", () -> x.draws(4, 9));
        Check.types(x, "8");
        Check.due("eight may be played", x.plays(), 8);
        Check.types(x, "1");
        Check.still(x, -11, "nine may not be played", x::plays);
    }

    private static void numberedByTime() {
        Check.sentence("they are numbered by it, of like TIME as they came");
        PlayedWritten x = new PlayedWritten();
        Check.due("the first", x.strikes(1999), 0);
        Check.due("ahead of it", x.strikes(0), 0);
        Check.due("between", x.strikes(1), 1);
        Check.due("of like TIME behind", x.strikes(0), 1);
        Check.due("of like TIME behind", x.strikes(1999), 4);
        Check.times("in order", x, 0, 0, 1, 1999, 1999);
        x.shifts(-500);
        x.shifts(-500);
        Check.times("of like TIME now", x, 0, 0, 0, 999, 999);
        Check.due("behind all of TIME 0", x.strikes(0), 3);
    }

    private static void asManyBarsAsTold() {
        Check.sentence("as many BARS as told, one behind the other, the first from TIME 0 on");
        String[][] shown = {{"1"}, {"-", "1"}, {"-", "-", "1"}};
        for (int bars = 1; bars <= 3; bars++) {
            PlayedWritten x = made(at(1999), bars, 432, 0, 0);
            Check.bars(bars + " BARS", x, shown[bars - 1]);
            Check.due("the first begins", x.bar(0, 1), 0);
            Check.due("the last begins", x.bar(bars - 1, 1), 432 * (bars - 1));
            Check.due("cost()", x.cost(), 216 * (1999 - 432 * (bars - 1)));
        }
        PlayedWritten bent = made(at(24), 2, 48, 24, 0, 4, 10, 8, 6, 0);
        Check.due("the first begins, though it is bent", bent.bar(0, 1), 0);
        Check.due("the second begins", bent.bar(1, 1), 24);
    }

    private static void threeLengths() {
        Check.sentence("each is LENGTH less BEND, LENGTH, or LENGTH and BEND ticks long");
        int[][] cases = {{180, 0, 180}, {200, 0, 200}, {220, 0, 220}, {179, 1, 180}, {190, 10, 180}, {189, 9, 180},
            {191, 9, 200}, {199, 1, 200}, {210, 10, 200}, {211, 9, 220}, {240, 20, 220}};
        for (int[] c : cases) {
            PlayedWritten x = made(at(c[0]), 2, 200, 20, 0, 4, 10, 8, 6, 0);
            Check.due("a STROKE at " + c[0] + ", cost()", x.cost(), 216 * c[1]);
            Check.due("a STROKE at " + c[0] + ", ticks", x.bar(0, 0), c[2]);
        }
        PlayedWritten none = made(at(220), 2, 200, 0, 0, 4, 10, 8, 6, 0);
        Check.due("BEND 0, cost()", none.cost(), 216 * 20);
        Check.due("BEND 0, ticks", none.bar(0, 0), 200);
    }

    private static void dealtInOrder() {
        Check.sentence("to the first BAR the first some (or none), to the next one the next some .. whatever their TIMES");
        Check.bars("none, none, all", made(at(1999, 1999), 3, 216, 0, 0), "-", "-", "2");
        Check.bars("all, none, none", made(at(0, 0, 0, 0, 0, 0, 0, 0), 3, 216, 0, 0), "8", "-", "-");
        Check.bars("none, all, none", made(at(216, 216), 3, 216, 0, 0), "-", "2", "-");
        // Two STROKES that would be a GRACE: the second goes to a BAR that begins long behind it.
        PlayedWritten x = made(at(0, 7), 2, 48, 0, 0, 4, 10, 8, 99);
        Check.bars("to the next BAR, whatever its TIME", x, "1", "1");
        Check.due("cost()", x.cost(), 216 * 41);
        // The first goes to a BAR far ahead of it for the same cause.
        PlayedWritten y = made(at(1000, 1099), 2, 48, 0, 0, 4, 10, 8, 99);
        Check.bars("to a BAR long ahead of it", y, "1", "1");
        Check.due("cost()", y.cost(), 216 * (1000 + 1051));
    }

    private static void leafAtItsBeginning() {
        Check.sentence("a LEAF (all of them are written where it begins)");
        PlayedWritten x = made(at(108, 109, 110, 111, 112, 113, 114, 115), 1, 216, 0, 1);
        Check.bars("eight in the second half", x, "[-8]");
        for (int k = 0; k < 8; k++) {
            Check.due("written(" + k + ", 1)", x.written(k, 1), 108);
        }
        Check.due("cost()", x.cost(), 216 * (4 + 28));
        Check.bars("none", made(at(), 1, 216, 0, 3, 0, 0, 0), "-");
    }

    private static void partsOfASpan() {
        Check.sentence("by HALVES two of one half each; by SWING .. two thirds .. one third; by THIRDS three of one third each");
        place("[-1]", 108, 108, 0, 99, 99);
        place("<-1>", 144, 144, 99, 0, 99);
        place("{-1-}", 72, 72, 99, 99, 0);
        place("{--1}", 144, 144, 99, 99, 0);
        place("[[-1]-]", 54, 54, 0, 99, 99);
        place("<<-1>->", 96, 96, 99, 0, 99);
        place("<-<-1>>", 192, 192, 99, 0, 99);
        place("{{-1-}--}", 24, 24, 99, 99, 0);
        place("[[[-1]-]-]", 27, 27, 0, 99, 99);
        place("<<<-1>->->", 64, 64, 99, 0, 99);
        place("<-<-<-1>>>", 208, 208, 99, 0, 99);
        place("{{{-1-}--}--}", 8, 8, 99, 99, 0);
        place("{--{--{--1}}}", 208, 208, 99, 99, 0);
    }

    private static void place(String text, int time, int place, int halves, int swing, int thirds) {
        PlayedWritten x = made(at(time), 1, 216, 0, 3, halves, swing, thirds);
        Check.bars(text, x, text);
        Check.due(text + ", where", x.written(0, 1), place);
        Check.due(text + ", cost()", x.cost(), 0);
    }

    private static void belowDepth() {
        Check.sentence("only SPANS of a LEVEL below DEPTH may be divided");
        String[] shown = {"1", "1", "[[-1]-]", "[[[-1]-]-]"};
        int[] costs = {37, 37, 17, 10};
        for (int depth = 0; depth <= 3; depth++) {
            PlayedWritten x = made(at(37), 1, 216, 0, depth, 0, 99, 99);
            Check.bars("DEPTH " + depth, x, shown[depth]);
            Check.due("DEPTH " + depth + ", cost()", x.cost(), 216 * costs[depth]);
            Check.holds("LEVELS", x.bar(0, 6) <= depth);
        }
    }

    private static void error() {
        Check.sentence("ERROR: how far 216 times (its TIME less b) is from n times a");
        PlayedWritten x = made(at(215, 216, 217), 2, 216, 0, 0);
        Check.due("a tick early", x.written(0, 2), 216);
        Check.due("none", x.written(1, 2), 0);
        Check.due("a tick late", x.written(2, 2), 216);
        PlayedWritten y = made(at(107, 108), 1, 215, 0, 1, 0);
        Check.due("half a tick early", y.written(0, 2), 108);
        Check.due("half a tick late", y.written(1, 2), 108);
        PlayedWritten bent = made(at(210), 2, 200, 20, 1, 0, 99, 99, 6, 0);
        // Written at half of a BAR from 0 on it would be 210 against 110.
        Check.due("by where its own BAR begins", bent.written(0, 2), 10 * 216);
    }

    private static void graceByChord() {
        Check.sentence("It is a GRACE, if .. its TIME is more than CHORD ticks less");
        for (int chord : new int[] {0, 1, 6, 49, 50}) {
            PlayedWritten x = made(at(0, chord), 1, 432, 0, 0, 4, 10, 8, 6, 2, chord);
            Check.due("CHORD " + chord + " ticks, GRACE", x.written(1, 4), 0);
            Check.due("CHORD " + chord + " ticks, cost()", x.cost(), 216 * chord);
            x.moves(1, chord + 1);
            Check.due("a tick more, GRACE", x.written(1, 4), 1);
            Check.due("a tick more, cost()", x.cost(), 216 * (chord + 1 + 6));
        }
        PlayedWritten y = made(at(0, 6, 12, 18), 1, 432, 0, 0);
        Check.due("each by the one ahead, not by the first", y.count(3), 0);
    }

    private static void graceInTheSameLeaf() {
        Check.sentence("It is a GRACE, if the STROKE ahead of it is written in the same LEAF");
        PlayedWritten bars = made(at(0, 216, 223), 2, 216, 0, 0);
        Check.due("the first in a BAR", bars.written(1, 4), 0);
        Check.due("the second in it", bars.written(2, 4), 1);
        PlayedWritten parts = made(at(0, 108, 115), 1, 216, 0, 1);
        Check.bars("two in the second half", parts, "[12]");
        Check.due("the first in a LEAF", parts.written(1, 4), 0);
        Check.due("the second in it", parts.written(2, 4), 1);
        Check.due("the first STROKE", parts.written(0, 4), 0);
        Check.due("GRACES", parts.count(3), 1);
    }

    private static void prices() {
        Check.sentence("216 times: the price of each division, GRACE for each GRACE");
        int[] prices = {0, 1, 98, 99};
        for (int price : prices) {
            PlayedWritten x = made(at(0, 108), 1, 216, 0, 1, price, 99, 99, 99);
            Check.due("HALVES " + price, x.cost(), 216 * price);
            Check.bars("HALVES " + price, x, "[11]");
            x = made(at(0, 144), 1, 216, 0, 1, 99, price, 99, 99);
            Check.due("SWING " + price, x.cost(), 216 * price);
            Check.bars("SWING " + price, x, "<11>");
            x = made(at(0, 72), 1, 216, 0, 1, 99, 99, price, 99);
            Check.due("THIRDS " + price, x.cost(), 216 * price);
            Check.bars("THIRDS " + price, x, "{11-}");
            x = made(at(0, 7, 14), 1, 216, 0, 0, 99, 99, 99, price);
            Check.due("GRACE " + price, x.cost(), 216 * (21 + 2 * price));
        }
    }

    private static void change() {
        Check.sentence("CHANGE times how many ticks each BAR is longer or shorter than the one ahead (the first: than LENGTH)");
        PlayedWritten first = made(at(0, 0, 0, 0, 110, 110, 110, 110), 1, 200, 20, 1, 0, 99, 99, 6, 1);
        Check.due("the first longer than LENGTH: 20 for 4 times 10", first.cost(), 216 * 20);
        Check.due("ticks", first.bar(0, 0), 220);
        PlayedWritten shorter = made(at(0, 0, 0, 0, 90, 90, 90, 90), 1, 200, 20, 1, 0, 99, 99, 6, 1);
        Check.due("the first shorter than LENGTH", shorter.cost(), 216 * 20);
        Check.due("ticks", shorter.bar(0, 0), 180);
        // Longer, then shorter: 20 and 40, against 20 ticks of ERROR of 8 STROKES in all.
        PlayedWritten both = made(at(220, 220, 220, 220, 400, 400, 400, 400), 3, 200, 20, 0, 4, 10, 8, 6, 1);
        Check.due("longer, then shorter", both.cost(), 216 * 60);
        Check.due("ticks together", both.count(5), 60);
        both.sets(8, 0);
        Check.due("CHANGE 0", both.cost(), 0);
        both.sets(8, 99);
        Check.due("CHANGE 99", both.cost(), 216 * 80);
        Check.due("ticks together", both.count(5), 0);
    }

    private static void ticksAndMany(String when, PlayedWritten x, int... want) {
        for (int b = 0; b < want.length / 2; b++) {
            Check.due(when + ", ticks of " + b, x.bar(b, 0), want[2 * b]);
            Check.due(when + ", STROKES of " + b, x.bar(b, 3), want[2 * b + 1]);
        }
    }

    private static void likeFirstBar() {
        Check.sentence("of like ones that with the shortest first BAR");
        ticksAndMany("nothing to tell them apart", made(at(), 3, 216, 24, 2, 4, 10, 8, 6, 0), 192, 0, 192, 0, 192, 0);
        ticksAndMany("LENGTH is the best alone", made(at(), 3, 216, 24, 2, 4, 10, 8, 6, 1), 216, 0, 216, 0, 216, 0);
        // As dear with 2 of them in a first BAR of 120 ticks: the shorter one comes ahead of the fewer.
        PlayedWritten x = made(at(60, 72, 78), 2, 120, 6, 1, 4, 6, 99, 24, 1, 0);
        Check.due("cost()", x.cost(), 216 * 82);
        ticksAndMany("shortest ahead of fewest", x, 114, 3, 114, 0);
    }

    private static void likeStrokesInIt() {
        Check.sentence("then the fewest STROKES in it");
        ticksAndMany("half way", made(at(108), 2, 216, 0, 0), 216, 0, 216, 1);
        ticksAndMany("eight half way", made(at(108, 108, 108, 108, 108, 108, 108, 108), 2, 216, 0, 0), 216, 0, 216, 8);
        // As dear with 1 of them in the first BAR and a second BAR of 54 ticks.
        PlayedWritten x = made(at(72, 84, 96, 108), 2, 60, 6, 1, 4, 0, 99, 24, 0, 6);
        Check.due("cost()", x.cost(), 216 * 82);
        ticksAndMany("fewest ahead of the shortest second", x, 66, 0, 60, 4);
    }

    private static void likeSecondBar() {
        Check.sentence("then the shortest second BAR, the fewest STROKES in that");
        ticksAndMany("the shortest second", made(at(0, 240), 2, 216, 24, 0, 4, 10, 8, 6, 0), 240, 1, 192, 1);
        ticksAndMany("the fewest in the second", made(at(0, 324), 3, 216, 0, 0), 216, 1, 216, 0, 216, 1);
        ticksAndMany("both", made(at(0, 336), 3, 216, 24, 0, 4, 10, 8, 6, 0), 192, 1, 192, 0, 192, 1);
        // As dear with none of them in a second BAR of 72 ticks.
        PlayedWritten x = made(at(0, 132, 138, 162), 3, 60, 12, 1, 4, 0, 99, 24, 1, 0);
        Check.due("cost()", x.cost(), 216 * 52);
        ticksAndMany("shortest ahead of fewest", x, 60, 1, 60, 1, 60, 2);
    }

    private static void likeThirdBar() {
        Check.sentence("and so on");
        ticksAndMany("the shortest third", made(at(240, 480), 3, 216, 24, 0, 4, 10, 8, 6, 0), 240, 0, 240, 1, 192, 1);
        ticksAndMany("LENGTH thrice", made(at(216, 432), 3, 216, 24, 0, 4, 10, 8, 6, 2), 216, 0, 216, 1, 216, 1);
        // As dear with 4 of them in the second BAR and a third BAR of 48 ticks.
        PlayedWritten x = made(at(48, 48, 48, 102, 126, 138, 150), 3, 48, 12, 1, 4, 4, 99, 18, 0, 0);
        Check.due("cost()", x.cost(), 216 * 70);
        ticksAndMany("fewest in the second ahead of the shortest third", x, 48, 0, 60, 3, 60, 4);
    }

    private static void likeKinds() {
        Check.sentence("then for each SPAN .. LEAF ahead of HALVES, SWING, THIRDS (in this order)");
        Check.bars("all free, nothing to write", made(at(), 2, 216, 0, 3, 0, 0, 0), "-", "-");
        Check.bars("LEAF ahead of HALVES", made(at(54), 1, 216, 0, 1, 0, 99, 99), "1");
        Check.bars("LEAF ahead of SWING", made(at(72), 1, 216, 0, 1, 99, 0, 99), "1");
        Check.bars("LEAF ahead of THIRDS", made(at(36), 1, 216, 0, 1, 99, 99, 0), "1");
        Check.bars("HALVES ahead of SWING", made(at(126), 1, 216, 0, 1, 0, 0, 99), "[-1]");
        Check.bars("HALVES ahead of THIRDS", made(at(90), 1, 216, 0, 1, 0, 99, 0), "[-1]");
        Check.bars("SWING ahead of THIRDS", made(at(144), 1, 216, 0, 1, 0, 0, 0), "<-1>");
        Check.bars("LEAF ahead of HALVES in a part", made(at(108, 135), 1, 216, 0, 2, 0, 99, 99, 0), "[-2]");
        Check.bars("HALVES ahead of SWING in a part", made(at(108, 171), 1, 216, 0, 2, 0, 0, 99), "[-[11]]");
        Check.bars("SWING ahead of THIRDS in a part", made(at(108, 180), 1, 216, 0, 2, 0, 0, 0), "[-<11>]");
        // As dear as <-2>: HALVES come ahead, though more are in their first part.
        PlayedWritten x = made(at(64, 72), 1, 108, 0, 1, 0, 19, 99, 55);
        Check.due("cost()", x.cost(), 216 * 82);
        Check.bars("HALVES ahead of fewer in the first part", x, "[11]");
    }

    private static void likeParts() {
        Check.sentence("then the fewest STROKES in its first part, then in its second one");
        Check.bars("HALVES", made(at(0, 54, 108), 1, 216, 0, 1, 0, 99, 99, 0), "[12]");
        Check.bars("SWING", made(at(0, 72, 144), 1, 216, 0, 1, 99, 0, 99, 0), "<12>");
        Check.bars("THIRDS, the first", made(at(36, 144), 1, 216, 0, 1, 99, 99, 0, 0), "{-11}");
        Check.bars("THIRDS, the second", made(at(0, 108), 1, 216, 0, 1, 99, 99, 0, 0), "{1-1}");
        // As dear as {1-1}, {11-} and {-2-}.
        Check.bars("THIRDS, the first ahead of the second", made(at(36, 108), 1, 216, 0, 1, 99, 99, 0, 0), "{-11}");
    }

    private static void state(String when, PlayedWritten x, long before, int states) {
        Check.due(when + " leaves one", x.told(15), states + 1);
        // The writing is asked for ahead of back(), so that an old one would show behind it.
        x.cost();
        Check.due(when + ", back()", x.back(), states);
        Check.due(when + ", all as before", x.digest(), before);
    }

    private static void statesOfEachCall() {
        Check.sentence("each call told S, if it is not refused, leaves one to go back to (STROKES, settings)");
        PlayedWritten x = Check.with(5, 50, 500);
        Check.types(x, "[11]<11>2");
        long before = x.digest();
        x.strikes(7);
        state("strikes", x, before, 3);
        x.lifts(1);
        state("lifts", x, before, 3);
        x.moves(2, 0);
        state("moves", x, before, 3);
        x.draws(9, 8);
        state("draws", x, before, 3);
        x.shifts(77);
        state("shifts", x, before, 3);
        int[] other = {3, 300, 20, 3, 1, 2, 3, 4, 5, 7};
        for (int what = 0; what < 10; what++) {
            x.sets(what, other[what]);
            state("sets(" + what + ", ..)", x, before, 3);
        }
        x.plays();
        state("plays", x, before, 3);
        x.moves(0, 5);
        state("moves, by which nothing is otherwise", x, before, 3);
        x.shifts(0);
        state("shifts, by which nothing is otherwise", x, before, 3);
        x.sets(0, 2);
        state("sets, by which nothing is otherwise", x, before, 3);
    }

    private static void noStatesOfOthers() {
        Check.sentence("each call told S (and no other) leaves one");
        PlayedWritten x = Check.with(5, 50, 500);
        x.time(0);
        x.cost();
        x.bar(0, 0);
        x.written(0, 0);
        x.shown(0, 0);
        x.count(0);
        x.bent(5);
        x.forced(1);
        x.without(1);
        x.exact();
        x.type('x');
        x.plays();
        x.clear();
        x.told(3);
        x.digest();
        Check.due("STATES", x.told(15), 3);
        Check.due("back()", x.back(), 2);
        Check.due("STATES by back()", x.told(15), 2);
        Check.times("back", x, 5, 50);
    }

    private static void noStatesOfRefused() {
        Check.sentence("each call told S, if it is not refused");
        PlayedWritten x = Check.with(1, 2, 3, 4, 5, 6, 7, 8);
        x.back();
        x.back();
        x.strikes(9);
        x.strikes(9);
        x.back();
        x.strikes(-1);
        x.lifts(8);
        x.moves(0, 2000);
        x.draws(0, 9);
        x.shifts(501);
        x.sets(10, 0);
        Check.due("STATES", x.told(15), 7);
        x.strikes(9);
        Check.refused(x, FULL, "strikes(9)", () -> x.strikes(9));
        Check.due("STATES", x.told(15), 8);
        x.back();
        Check.times("back", x, 1, 2, 3, 4, 5, 6, 9);
    }

    private static void eightStates() {
        Check.sentence("8 at most, older ones lost");
        PlayedWritten x = Check.with(1, 2, 3, 4, 5, 6, 7, 8);
        Check.due("eight", x.told(15), 8);
        x.lifts(7);
        Check.due("and one more", x.told(15), 8);
        for (int left = 7; left >= 0; left--) {
            Check.due("back()", x.back(), left);
            Check.due("STROKES", x.told(3), left + 1);
        }
        Check.refused(x, NO, "the oldest is lost", x::back);
        Check.times("as far as it goes", x, 1);
        x.shifts(3);
        Check.due("anew", x.told(15), 1);
        Check.due("back()", x.back(), 0);
        Check.times("back", x, 1);
    }

    private static void firstOfRefusals() {
        Check.sentence("Refused .. the first of: BAD -2 a number is not as told; NO -3, FULL -4 as told");
        Check.due("BAD", BAD, -2);
        Check.due("NO", NO, -3);
        Check.due("FULL", FULL, -4);
        PlayedWritten x = Check.with(1, 2, 3, 4, 5, 6, 7, 8);
        x.sets(3, 0);
        Check.types(x, "-".repeat(60));
        Check.refused(x, BAD, "BAD ahead of FULL", () -> x.strikes(2000));
        Check.refused(x, FULL, "FULL", () -> x.strikes(1999));
        Check.refused(x, BAD, "BAD ahead of NO", () -> x.forced(4));
        Check.refused(x, NO, "NO", () -> x.forced(3));
        Check.refused(x, BAD, "BAD ahead of FULL", () -> x.type(128));
        Check.refused(x, FULL, "FULL", () -> x.type(127));
        Check.due("BADs", x.told(0), 3);
        Check.due("NOs", x.told(1), 1);
        Check.due("FULLs", x.told(2), 2);
    }
}
