import java.math.BigInteger;

/** THE TEXT and its FAULT, and promises 18 to 23, each sentence that names an edge by itself. */
public final class TextsEdgesTest {
    private static final int MIN = Check.MIN, MAX = Check.MAX;
    private static final int NO = PlayedWritten.NO, FULL = PlayedWritten.FULL;
    private static final String OPENING = "[<{", CLOSING = "]>}";

    public static void main(String[] args) {
        figures();
        sixtyBytes();
        oneToThreeBars();
        blanks();
        faultAtAByte();
        faultByAFigure();
        faultByTooMany();
        faultByLevel();
        faultByAFourthBar();
        faultByTheEnd();
        nothingIsDone();
        typeBytes();
        typeFull();
        clear();
        playsNumbers();
        playsCut();
        playsStays();
        playsFaults();
        backNone();
        backEight();
        toldEach();
        toldBad();
        digestWrapsAround();
        digestOfNothing();
        Check.end("TextsEdgesTest");
    }

    private static PlayedWritten typed(String text) {
        PlayedWritten x = new PlayedWritten();
        Check.types(x, text);
        return x;
    }

    private static void fault(String text, int place) {
        PlayedWritten x = Check.with(3, 4);
        Check.types(x, text);
        Check.still(x, -10 - place, "plays() of '" + text + "'", x::plays);
    }

    private static void plays(String text, int bars, int strokes) {
        PlayedWritten x = typed(text);
        Check.due("plays() of '" + text + "'", x.plays(), strokes);
        Check.due("STROKES of '" + text + "'", x.told(3), strokes);
        Check.due("BARS of '" + text + "'", x.told(4), bars);
    }

    private static void figures() {
        Check.sentence("a LEAF is - without STROKES, else the figure of how many");
        plays("-", 1, 0);
        for (int many = 1; many <= 8; many++) {
            plays(Integer.toString(many), 1, many);
        }
    }

    private static void sixtyBytes() {
        Check.sentence("THE TEXT (60 bytes at most)");
        String dense = "{{{---}{---}{---}}{{---}{---}{---}}{{---}{---}{---}}}";
        PlayedWritten x = typed(dense + "[71]" + "1  ");
        Check.due("bytes", x.told(14), 60);
        Check.still(x, -10 - 57, "nine STROKES in 60 bytes", x::plays);
        PlayedWritten y = typed(dense + "[71]" + "-  ");
        Check.due("60 bytes", y.plays(), 8);
        Check.due("BARS", y.told(4), 3);
        Check.due("the last", y.time(7), 216 + 108);
        PlayedWritten z = typed(dense + "[71]" + "  -");
        Check.due("the 60th byte counts", z.plays(), 8);
        Check.due("BARS", z.told(4), 3);
        PlayedWritten over = typed(dense + "[71]" + "   -");
        Check.due("the 61st does not", over.plays(), 8);
        Check.due("BARS", over.told(4), 2);
        Check.due("FULLs", over.told(2), 1);
    }

    private static void oneToThreeBars() {
        Check.sentence("tells 1 to 3 BARS so, one behind the other");
        plays("1", 1, 1);
        plays("11", 2, 2);
        plays("111", 3, 3);
        plays("[--]", 1, 0);
        plays("[--]<-->", 2, 0);
        plays("[--]<-->{---}", 3, 0);
    }

    private static void blanks() {
        Check.sentence("blanks (32) may stand anywhere");
        plays("     1", 1, 1);
        plays("1     ", 1, 1);
        plays("1  1  1  ", 3, 3);
        plays(" [ 1 < - { 1 - 1 } > ] - ", 2, 3);
        plays(" ".repeat(59) + "8", 1, 8);
        plays("8" + " ".repeat(59), 1, 8);
        for (int other : new int[] {0, 9, 10, 13, 31, 33, 95, 127}) {
            fault((char) other + "1", 0);
            fault("1" + (char) other, 1);
            fault("[1" + (char) other + "1]", 2);
        }
    }

    private static void faultAtAByte() {
        Check.sentence("FAULT: the place of the first byte that can not stand there");
        for (int c = 0; c < 128; c++) {
            boolean stands = c == ' ' || c == '-' || c >= '1' && c <= '8' || OPENING.indexOf(c) >= 0;
            PlayedWritten x = typed("[");
            x.type(c);
            Check.still(x, stands ? -12 : -11, "byte " + c + " where a SPAN begins", x::plays);
            PlayedWritten y = typed("[11");
            y.type(c);
            int due = c == ']' ? 2 : c == ' ' ? -14 : -13;
            Check.due("byte " + c + " where ] is due", y.plays(), due);
        }
        fault("]", 0);
        fault("1>", 1);
        for (int one = 0; one < 3; one++) {
            for (int other = 0; other < 3; other++) {
                String parts = one == 2 ? "---" : "--";
                String text = "-" + OPENING.charAt(one) + parts + CLOSING.charAt(other);
                if (one == other) {
                    plays(text, 2, 0);
                } else {
                    fault(text, text.length() - 1);
                }
            }
            String few = OPENING.charAt(one) + (one == 2 ? "--" : "-");
            fault(few + CLOSING.charAt(one), few.length());
            fault(few + "--" + CLOSING.charAt(one), few.length() + 1);
        }
        fault("1x]9", 1);
    }

    private static void faultByAFigure() {
        Check.sentence("FAULT: (a figure 0 or 9");
        for (String figure : new String[] {"0", "9"}) {
            fault(figure, 0);
            fault("-" + figure, 1);
            fault("[" + figure + "-]", 1);
            fault("[1" + figure + "]", 2);
            fault("{-<-" + figure + ">-}", 4);
        }
    }

    private static void faultByTooMany() {
        Check.sentence("FAULT: or by which there would be more than 8 STROKES");
        for (int many = 1; many <= 8; many++) {
            int left = 8 - many;
            if (left > 0) {
                plays("" + many + left, 2, 8);
                plays("[" + many + left + "]-", 2, 8);
                plays("[" + many + "-]" + left, 2, 8);
            }
            if (left < 8 && left + 1 <= 8) {
                fault("" + many + (left + 1), 1);
                fault("[" + many + (left + 1) + "]", 2);
                fault("[-" + many + "]" + (left + 1), 4);
            }
        }
        plays("{323}", 1, 8);
        fault("{333}", 3);
        plays("8--", 3, 8);
        fault("8-1", 2);
        plays("[[[11][11]][[11][11]]]", 1, 8);
        fault("[[[11][11]][[11][12]]]", 18);
    }

    private static void faultByLevel() {
        Check.sentence("FAULT: [ < { in a SPAN of LEVEL 3, whatever DEPTH is");
        for (int depth = 0; depth <= 3; depth++) {
            for (int way = 0; way < 81; way++) {
                levels(depth, way);
            }
        }
        fault("[-[-[-[", 6);
        fault("<-<-<-<", 6);
        fault("{--{--{--{", 9);
        plays("[[[--][--]][[--][--]]]", 1, 0);
        fault("[[[--][--]][[--][-[", 18);
    }

    private static void levels(int depth, int way) {
        int[] kind = {way % 3, way / 3 % 3, way / 9 % 3, way / 27};
        StringBuilder opened = new StringBuilder();
        StringBuilder closed = new StringBuilder();
        for (int level = 0; level < 3; level++) {
            opened.append(OPENING.charAt(kind[level]));
            closed.insert(0, (kind[level] == 2 ? "--" : "-") + CLOSING.charAt(kind[level]));
        }
        PlayedWritten x = typed(opened + "1" + closed);
        x.sets(3, depth);
        Check.due("three LEVELS at DEPTH " + depth, x.plays(), 1);
        PlayedWritten y = typed(opened.toString() + OPENING.charAt(kind[3]));
        y.sets(3, depth);
        Check.due("four LEVELS at DEPTH " + depth, y.plays(), -13);
    }

    private static void faultByAFourthBar() {
        Check.sentence("FAULT: what would begin a fourth BAR");
        for (String begin : new String[] {"-", "1", "[", "<", "{"}) {
            fault("---" + begin, 3);
            fault("1-2  " + begin, 5);
            fault("[--]-<--> " + begin, 10);
        }
        plays("---   ", 3, 0);
        fault("---]", 3);
        fault("---9", 3);
        fault(" ".repeat(56) + "----", 59);
    }

    private static void faultByTheEnd() {
        Check.sentence("FAULT: the TEXT's length, if it ends too early (an empty one, too)");
        fault("", 0);
        fault(" ", 1);
        fault(" ".repeat(60), 60);
        fault(" ".repeat(59) + "{", 60);
        String text = "[1<{1-2}{---}>]";
        for (int length = 0; length < text.length(); length++) {
            fault(text.substring(0, length), length);
            fault(text.substring(0, length) + "  ", length + 2);
            fault("11" + text.substring(0, Math.max(1, length)), 2 + Math.max(1, length));
        }
        plays(text, 1, 4);
        PlayedWritten cleared = typed(text);
        cleared.clear();
        Check.still(cleared, -10, "an empty one by clear()", cleared::plays);
    }

    private static void nothingIsDone() {
        Check.sentence("Nothing is done then. .. By a FAULT nothing counts.");
        String[] texts = {"", "111 1", "[1", "9", "44-1", "[[[[", "{11}", "[22]<3"};
        for (String text : texts) {
            PlayedWritten x = Check.with(1, 2, 3);
            x.sets(0, 2);
            x.sets(9, 7);
            Check.types(x, text);
            long before = x.digest();
            Check.holds("a FAULT by '" + text + "'", x.plays() <= -10);
            Check.due("digest()", x.digest(), before);
            Check.times("STROKES stay", x, 1, 2, 3);
            Check.due("nothing counts", x.told(0) + x.told(1) + x.told(2), 0);
            Check.due("THE TEXT stays", x.told(14), text.length());
            Check.due("no STATE more", x.back(), 4);
            Check.due("CHORD back", x.told(13), 6);
        }
        // Nothing is left of it for the next reading either.
        PlayedWritten x = typed("3[2{1");
        Check.still(x, -15, "a FAULT", x::plays);
        Check.still(x, -15, "the same again", x::plays);
        x.clear();
        Check.types(x, "[11]");
        Check.due("another TEXT", x.plays(), 2);
        Check.due("BARS", x.told(4), 1);
        Check.times("another TEXT", x, 0, 108);
        x.clear();
        Check.types(x, "[8");
        x.plays();
        Check.types(x, "-]");
        Check.due("the same TEXT, longer", x.plays(), 8);
    }

    private static void typeBytes() {
        Check.sentence("18: A byte (0 .. 127) comes behind THE TEXT: how many it has. BAD");
        PlayedWritten x = new PlayedWritten();
        for (int c : new int[] {-1, 128, 256, MIN, MAX}) {
            Check.bad(x, "type(" + c + ")", () -> x.type(c));
        }
        Check.due("the least", x.type(0), 1);
        Check.due("the greatest", x.type(127), 2);
        Check.bad(x, "type(128)", () -> x.type(128));
        Check.due("bytes", x.told(14), 2);
        Check.due("no STATES", x.told(15), 0);
    }

    private static void typeFull() {
        Check.sentence("18: FULL: 60");
        PlayedWritten x = typed(" ".repeat(59));
        Check.due("the 60th", x.type('1'), 60);
        Check.refused(x, FULL, "the 61st", () -> x.type('1'));
        Check.refused(x, FULL, "the 61st, least", () -> x.type(0));
        Check.refused(x, FULL, "the 61st, greatest", () -> x.type(127));
        for (int c : new int[] {-1, 128, MIN, MAX}) {
            Check.bad(x, "BAD ahead of FULL, type(" + c + ")", () -> x.type(c));
        }
        Check.due("as it was", x.plays(), 1);
        x.clear();
        Check.due("room again", x.type('1'), 1);
    }

    private static void clear() {
        Check.sentence("19: THE TEXT is empty: how many it had");
        PlayedWritten x = new PlayedWritten();
        Check.still(x, 0, "an empty one", x::clear);
        x.type('1');
        Check.due("one", x.clear(), 1);
        Check.due("bytes", x.told(14), 0);
        Check.types(x, "-".repeat(60));
        Check.due("sixty", x.clear(), 60);
        Check.still(x, 0, "again", x::clear);
        Check.due("no STATES", x.told(15), 0);
        x.type('2');
        Check.due("nothing of it is left", x.plays(), 2);
        Check.due("BARS", x.told(4), 1);
    }

    private static void playsNumbers() {
        Check.sentence("20: BARS becomes how many it tells, the STROKES are those that it tells .. how many STROKES");
        for (int bars = 1; bars <= 3; bars++) {
            PlayedWritten none = Check.with(0, 1, 2, 3, 4, 5, 6, 7);
            Check.types(none, "---".substring(0, bars));
            Check.due("none instead of eight", none.plays(), 0);
            Check.due("BARS", none.told(4), bars);
            Check.times("none", none);
            PlayedWritten eight = Check.with(0, 1, 2, 3, 4, 5, 6, 7);
            Check.types(eight, "--8".substring(3 - bars));
            Check.due("eight instead of eight", eight.plays(), 8);
            int t = 216 * (bars - 1);
            Check.times("eight", eight, t, t, t, t, t, t, t, t);
            eight.back();
            Check.times("eight back", eight, 0, 1, 2, 3, 4, 5, 6, 7);
            Check.due("BARS back", eight.told(4), 2);
        }
    }

    private static void playsCut() {
        Check.sentence("20: TIME is where it begins, and LENGTH times a by 216 (cut)");
        cut("[[[11][11]][[11][11]]]", 48, 0, 6, 12, 18, 24, 30, 36, 42);
        cut("[[[11][11]][[11][11]]]", 55, 0, 6, 13, 20, 27, 34, 41, 48);
        cut("{{{11-}--}-{--{--1}}}", 49, 0, 1, 47);
        cut("{{{11-}--}-{--{--1}}}", 431, 0, 15, 415);
        cut("{{{11-}--}-{--{--1}}}", 432, 0, 16, 416);
        cut("<[-[-1]]1>", 215, 107, 143);
        cut("--<<<11>1>1>", 432, 864, 864 + 128, 864 + 192, 864 + 288);
        cut("--{--{--{--1}}}", 432, 864 + 416);
        cut("-{-{--1}-}-", 49, 49 + 27);
        cut("--[-1]", 49, 98 + 24);
    }

    private static void cut(String text, int length, int... times) {
        PlayedWritten x = typed(text);
        x.sets(1, length);
        x.sets(2, 24);
        Check.due("plays() of " + text, x.plays(), times.length);
        Check.times(text + " at LENGTH " + length, x, times);
        Check.due("LENGTH stays", x.told(5), length);
        Check.due("BEND stays", x.told(6), 24);
    }

    private static void playsStays() {
        Check.sentence("20: THE TEXT (which stays) is played .. S");
        PlayedWritten x = typed("[12]");
        for (int n = 1; n <= 9; n++) {
            Check.due("plays()", x.plays(), 3);
            Check.due("bytes", x.told(14), 4);
            Check.due("STATES", x.told(15), Math.min(8, n));
        }
        Check.due("another behind it", x.type('-'), 5);
        Check.due("plays()", x.plays(), 3);
        Check.due("BARS", x.told(4), 2);
    }

    private static void playsFaults() {
        Check.sentence("20: -10 less the FAULT");
        for (int place = 0; place < 60; place++) {
            fault(" ".repeat(place) + "x", place);
            fault(" ".repeat(place), place);
        }
        fault(" ".repeat(60), 60);
        fault("-" + " ".repeat(58) + "]", 59);
    }

    private static void backNone() {
        Check.sentence("21: NO: none");
        PlayedWritten x = new PlayedWritten();
        Check.refused(x, NO, "at first", x::back);
        x.strikes(5);
        Check.due("back()", x.back(), 0);
        Check.refused(x, NO, "again", x::back);
        Check.refused(x, NO, "again", x::back);
        Check.due("NOs", x.told(1), 3);
        x.strikes(2000);
        x.type('1');
        x.clear();
        Check.refused(x, NO, "none by a refused call or a text", x::back);
    }

    private static void backEight() {
        Check.sentence("21: A STATE back: how many can be yet");
        for (int calls : new int[] {7, 8, 9, 16, 17, 100}) {
            PlayedWritten x = new PlayedWritten();
            for (int n = 1; n <= calls; n++) {
                x.sets(1, 100 + n);
            }
            int kept = Math.min(8, calls);
            for (int left = kept - 1; left >= 0; left--) {
                Check.due("of " + calls, x.back(), left);
                int n = calls - kept + left;
                Check.due("LENGTH", x.told(5), n == 0 ? 216 : 100 + n);
            }
            Check.refused(x, NO, "older ones lost", x::back);
        }
    }

    private static void toldEach() {
        Check.sentence("22: How often refused: BAD (0) .. STATES (15)");
        PlayedWritten x = new PlayedWritten();
        for (int n = 0; n < 70; n++) {
            x.type('-');
        }
        x.forced(4);
        x.back();
        for (int t = 0; t < 10; t++) {
            x.strikes(t);
        }
        int[] greatest = {3, 432, 24, 3, 99, 99, 99, 99, 99, 50};
        int[] least = {1, 48, 0, 0, 0, 0, 0, 0, 0, 0};
        Check.set(x, greatest);
        tolds(x, 1, 1, 12, 8, 3, 432, 24, 3, 99, 99, 99, 99, 99, 50, 60, 8);
        Check.set(x, least);
        x.draws(0, 0);
        x.clear();
        tolds(x, 1, 1, 12, 0, 1, 48, 0, 0, 0, 0, 0, 0, 0, 0, 0, 8);
    }

    private static void tolds(PlayedWritten x, int... want) {
        for (int what = 0; what < want.length; what++) {
            int number = what;
            Check.still(x, want[what], "told(" + what + ")", () -> x.told(number));
        }
    }

    private static void toldBad() {
        Check.sentence("22: BAD");
        PlayedWritten x = new PlayedWritten();
        for (int what : new int[] {-1, 16, MIN, MAX}) {
            Check.bad(x, "told(" + what + ")", () -> x.told(what));
        }
        Check.due("BADs", x.told(0), 4);
    }

    /** Added up without an end, and cut to 64 bits at last. */
    private static long folded(PlayedWritten x) {
        BigInteger h = BigInteger.valueOf(1772);
        for (int what = 0; what < 16; what++) {
            h = next(h, x.told(what));
        }
        int many = x.told(3);
        for (int k = 0; k < many; k++) {
            h = next(h, x.time(k));
        }
        h = next(h, x.cost());
        for (int b = 0; b < x.told(4); b++) {
            for (int what = 0; what < 9; what++) {
                h = next(h, x.bar(b, what));
            }
        }
        for (int k = 0; k < many; k++) {
            for (int what = 0; what < 6; what++) {
                h = next(h, x.written(k, what));
            }
        }
        return h.longValue();
    }

    private static BigInteger next(BigInteger h, int v) {
        return h.multiply(BigInteger.valueOf(31)).add(BigInteger.valueOf(v));
    }

    private static void digestWrapsAround() {
        Check.sentence("23: h = 1772; then h = 31 h + v for each v");
        for (int bars = 1; bars <= 3; bars++) {
            for (int many = 0; many <= 8; many++) {
                PlayedWritten x = new PlayedWritten();
                x.sets(0, bars);
                x.draws(77 + many, many);
                x.type('1');
                x.forced(-1);
                Check.due(many + " STROKES, " + bars + " BARS", x.digest(), folded(x));
            }
        }
        PlayedWritten far = Check.with(1999, 1999, 1999, 1999, 1999, 1999, 1999, 1999);
        Check.set(far, 3, 48, 24, 3, 99, 99, 99, 99, 99, 50);
        Check.due("the greatest numbers", far.digest(), folded(far));
    }

    private static void digestOfNothing() {
        Check.sentence("23: TIMES .. of each STROKE (no STROKES)");
        PlayedWritten x = new PlayedWritten();
        x.sets(0, 1);
        long h = 1772;
        int[] values = {0, 0, 0, 0, 1, 216, 0, 2, 4, 10, 8, 6, 2, 6, 0, 1, 0, 216, 0, 0, 0, 0, 1, 0, 0, 0};
        for (int v : values) {
            h = 31 * h + v;
        }
        Check.due("digest()", x.digest(), h);
        Check.due("again, by which nothing is otherwise", x.digest(), h);
    }
}
