/** Promises 18 to 23: THE TEXT, going back, what is told, and the digest. */
public final class TextsTest {
    private static final int MIN = Integer.MIN_VALUE, MAX = Integer.MAX_VALUE;

    public static void main(String[] args) {
        typeAndClear();
        plays();
        faults();
        faultChangesNothing();
        longTexts();
        back();
        told();
        digest();
        Check.end("TextsTest");
    }

    private static void typeAndClear() {
        PlayedWritten x = new PlayedWritten();
        Check.due("clear() of none", x.clear(), 0);
        Check.due("type(0)", x.type(0), 1);
        Check.due("type(127)", x.type(127), 2);
        for (int c : new int[] {-1, 128, MIN, MAX}) {
            Check.due("type(" + c + ")", x.type(c), PlayedWritten.BAD);
        }
        for (int i = 3; i <= 60; i++) {
            Check.due("type", x.type(' '), i);
        }
        Check.due("a byte more", x.type(' '), PlayedWritten.FULL);
        Check.due("BAD ahead of FULL", x.type(128), PlayedWritten.BAD);
        Check.due("BADs", x.told(0), 5);
        Check.due("FULLs", x.told(2), 1);
        Check.due("bytes", x.told(14), 60);
        Check.due("no STATES of texts", x.told(15), 0);
        Check.due("clear()", x.clear(), 60);
        Check.due("clear() again", x.clear(), 0);
        Check.due("bytes", x.told(14), 0);
        Check.due("type again", x.type('1'), 1);
        Check.due("no STATES of texts", x.told(15), 0);
    }

    private static void played(String text, int length, int bars, int... times) {
        PlayedWritten x = Check.with(1, 2);
        x.sets(1, length);
        int states = x.told(15);
        Check.types(x, text);
        Check.due("plays() of " + text, x.plays(), times.length);
        Check.due("STROKES of " + text, x.told(3), times.length);
        Check.due("BARS of " + text, x.told(4), bars);
        for (int k = 0; k < times.length; k++) {
            Check.due("time(" + k + ") of " + text, x.time(k), times[k]);
        }
        Check.due("THE TEXT stays", x.told(14), text.length());
        Check.due("STATES", x.told(15), states + 1);
        x.back();
        Check.due("BARS back", x.told(4), 2);
        Check.due("time(1) back", x.time(1), 2);
    }

    private static void plays() {
        played("-", 216, 1);
        played("8", 216, 1, 0, 0, 0, 0, 0, 0, 0, 0);
        played("--1", 432, 3, 864);
        played("1 2 1", 100, 3, 0, 100, 100, 200);
        played("[11]", 216, 1, 0, 108);
        played("<11>", 216, 1, 0, 144);
        played("{111}", 216, 1, 0, 72, 144);
        played("{111}", 100, 1, 0, 33, 66);
        played("-<-1>", 101, 2, 101 + 67);
        played("[<11>{111}]", 216, 1, 0, 72, 108, 144, 180);
        played("<[11]{111}>", 216, 1, 0, 72, 144, 168, 192);
        played("{<11>[11]<11>}", 216, 1, 0, 48, 72, 108, 144, 192);
        played("[-[-[-1]]]", 216, 1, 189);
        played("<-<-<-1>>>", 216, 1, 208);
        played("{--{--{--1}}}", 48, 1, 46);
        played("<<<11>->->", 216, 1, 0, 64);
        played("{{{111}--}{-{1-1}-}-}", 216, 1, 0, 8, 16, 96, 112);
        played("  {  2 - 1  }  ", 216, 1, 0, 0, 144);
        // DEPTH does not bind THE TEXT.
        PlayedWritten x = new PlayedWritten();
        x.sets(3, 0);
        Check.types(x, "[[[11]-]-]");
        Check.due("plays() at DEPTH 0", x.plays(), 2);
        Check.due("time(1)", x.time(1), 27);
        Check.due("DEPTH stays", x.told(7), 0);
        Check.due("plays() again", x.plays(), 2);
        Check.due("STATES", x.told(15), 3);
    }

    private static void fault(String text, int place) {
        PlayedWritten x = new PlayedWritten();
        Check.types(x, text);
        Check.due("plays() of '" + text + "'", x.plays(), -10 - place);
    }

    private static void faults() {
        fault("", 0);
        fault(" ", 1);
        fault("   ", 3);
        fault("[", 1);
        fault("[1", 2);
        fault("[11", 3);
        fault("[11 ", 4);
        fault("1[", 2);
        fault("{11", 3);
        fault("0", 0);
        fault("9", 0);
        fault("19", 1);
        fault("1 0", 2);
        fault("]", 0);
        fault(">", 0);
        fault("1]", 1);
        fault("x", 0);
        fault("1x", 1);
        fault("[]", 1);
        fault("[1]", 2);
        fault("[111]", 3);
        fault("[11>", 3);
        fault("[11}", 3);
        fault("<11]", 3);
        fault("<111>", 3);
        fault("{11}", 3);
        fault("{111]", 4);
        fault("{1111}", 4);
        fault("[11-]", 3);
        fault("[[11]", 5);
        fault("[1[11>]", 5);
        fault("[[[[11]1]1]1]", 3);
        fault("<<<<11>1>1>1>", 3);
        fault("{{{{", 3);
        fault("[--][-[-[-{", 10);
        fault("81", 1);
        fault("62-1", 3);
        fault("44 [-1]", 5);
        fault("[4{32-", 4);
        fault("1111", 3);
        fault("----", 3);
        fault("---[", 3);
        fault("---]", 3);
        fault("- - -  x", 7);
        fault("\t1", 0);
        fault("1\u00001", 1);
    }

    private static void faultChangesNothing() {
        PlayedWritten x = Check.with(4, 5);
        x.sets(0, 3);
        Check.types(x, "[11][1");
        long before = x.digest();
        Check.due("plays()", x.plays(), -16);
        Check.due("digest() stays", x.digest(), before);
        Check.due("nothing counts", x.told(0) + x.told(1) + x.told(2), 0);
        Check.types(x, "1]");
        Check.due("mended", x.plays(), 4);
        Check.due("BARS", x.told(4), 2);
    }

    private static void longTexts() {
        fault(" ".repeat(60), 60);
        fault(" ".repeat(59) + "[", 60);
        played(" ".repeat(57) + "1-1", 216, 3, 0, 432);
        played("{{{---}{---}{---}}{{---}{---}{---}}{{---}{---}{--1}}}       ", 216, 1, 208);
    }

    private static void back() {
        PlayedWritten x = new PlayedWritten();
        Check.due("back() at first", x.back(), PlayedWritten.NO);
        Check.due("NOs", x.told(1), 1);
        for (int v = 1; v <= 12; v++) {
            x.sets(9, v);
        }
        Check.due("8 at most", x.told(15), 8);
        x.sets(9, 51);
        Check.due("refused: none", x.told(15), 8);
        for (int left = 7; left >= 0; left--) {
            Check.due("back()", x.back(), left);
            Check.due("CHORD", x.told(13), 4 + left);
        }
        Check.due("older ones are lost", x.back(), PlayedWritten.NO);
        Check.due("CHORD", x.told(13), 4);
        Check.due("NOs", x.told(1), 2);
        x.strikes(9);
        x.sets(1, 48);
        Check.types(x, "11");
        x.plays();
        Check.due("three STATES", x.told(15), 3);
        Check.due("back()", x.back(), 2);
        Check.due("STROKES", x.told(3), 1);
        Check.due("THE TEXT is no part of it", x.told(14), 2);
        Check.due("how often is no part of it", x.told(1), 2);
        x.sets(0, 1);
        Check.due("another way on", x.told(15), 3);
        Check.due("back()", x.back(), 2);
        Check.due("back()", x.back(), 1);
        Check.due("LENGTH", x.told(5), 216);
        Check.due("back()", x.back(), 0);
        Check.due("STROKES", x.told(3), 0);
        Check.due("BARS", x.told(4), 2);
    }

    private static void told() {
        PlayedWritten x = Check.with(1, 2, 3);
        x.forced(9);
        x.forced(-9);
        x.sets(3, 0);
        x.forced(1);
        for (int i = 0; i < 61; i++) {
            x.type('-');
        }
        int[] values = {3, 211, 24, 1, 40, 50, 60, 70, 80, 9};
        for (int what = 0; what < 10; what++) {
            x.sets(what, values[what]);
        }
        int[] want = {2, 1, 1, 3, 3, 211, 24, 1, 40, 50, 60, 70, 80, 9, 60, 8};
        for (int what = 0; what < 16; what++) {
            Check.due("told(" + what + ")", x.told(what), want[what]);
        }
        for (int what : new int[] {-1, 16, MIN, MAX}) {
            Check.due("told(" + what + ")", x.told(what), PlayedWritten.BAD);
        }
        Check.due("BADs", x.told(0), 6);
    }

    private static long folded(int[]... rows) {
        long h = 1772;
        for (int[] row : rows) {
            for (int v : row) {
                h = 31 * h + v;
            }
        }
        return h;
    }

    private static void digest() {
        PlayedWritten x = new PlayedWritten();
        long none = folded(new int[] {0, 0, 0, 0, 2, 216, 0, 2, 4, 10, 8, 6, 2, 6, 0, 0}, new int[] {0},
                new int[] {216, 0, 0, 0, 0, 1, 0, 0, 0}, new int[] {216, 216, 0, 0, 0, 1, 0, 0, 0});
        Check.due("digest() at first", x.digest(), none);
        Check.due("digest() again", x.digest(), none);
        x = Check.with(0, 54, 110, 216, 300);
        x.time(5);
        long five = folded(new int[] {1, 0, 0, 5, 2, 216, 0, 2, 4, 10, 8, 6, 2, 6, 0, 5},
                new int[] {0, 54, 110, 216, 300}, new int[] {6480},
                new int[] {216, 0, 0, 3, 2, 3, 2, 432, 0}, new int[] {216, 216, 3, 2, 1, 3, 1, 2592, 0},
                new int[] {0, 0, 0, 1, 0, 2}, new int[] {0, 54, 0, 1, 0, 2}, new int[] {0, 108, 432, 1, 0, 1},
                new int[] {1, 0, 0, 1, 0, 1}, new int[] {1, 72, 2592, 1, 0, 1});
        Check.due("digest() of five", x.digest(), five);
        Check.due("it counts nothing", x.told(0), 1);
    }
}
