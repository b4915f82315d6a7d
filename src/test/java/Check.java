import java.util.function.IntSupplier;

/** Counts the answers that are not as due, and ends a test with exit code 1 if there were any. */
final class Check {
    static final int MIN = Integer.MIN_VALUE, MAX = Integer.MAX_VALUE;

    private static int wrong = 0;
    private static int asked = 0;
    private static int sentences = 0;
    private static String sentence = "";

    private Check() {
    }

    /** The words of the document that the answers from here on are looked at under. */
    static void sentence(String words) {
        sentence = "'" + words + "': ";
        sentences++;
    }

    private static void tell(String what) {
        wrong++;
        if (wrong <= 40) {
            System.out.println(sentence + what);
        }
    }

    static void due(String call, long got, long want) {
        asked++;
        if (got != want) {
            tell(call + " answered " + got + ", due is " + want);
        }
    }

    static void due(String call, String got, String want) {
        asked++;
        if (!got.equals(want)) {
            tell(call + " answered " + got + ", due is " + want);
        }
    }

    static void holds(String what, boolean so) {
        asked++;
        if (!so) {
            tell(what + ": does not hold");
        }
    }

    /**
     * The call is refused so, and nothing is otherwise by it but how often. In a digest how often
     * comes first, so that one refusal more makes it a power of 31 more, and nothing else does.
     */
    static void refused(PlayedWritten x, int why, String name, IntSupplier call) {
        int values = 16 + x.told(3) + 1 + 9 * x.told(4) + 6 * x.told(3);
        long one = 1;
        for (int v = values - 1; v > PlayedWritten.BAD - why; v--) {
            one *= 31;
        }
        long before = x.digest();
        due(name, call.getAsInt(), why);
        due("digest() behind " + name, x.digest(), before + one);
    }

    static void bad(PlayedWritten x, String name, IntSupplier call) {
        refused(x, PlayedWritten.BAD, name, call);
    }

    /** The call answers so and changes nothing, not even how often. */
    static void still(PlayedWritten x, int want, String name, IntSupplier call) {
        long before = x.digest();
        due(name, call.getAsInt(), want);
        due("digest() behind " + name, x.digest(), before);
    }

    static void times(String when, PlayedWritten x, int... want) {
        due(when + ", told(3)", x.told(3), want.length);
        for (int k = 0; k < want.length; k++) {
            due(when + ", time(" + k + ")", x.time(k), want[k]);
        }
    }

    static void bars(String when, PlayedWritten x, String... want) {
        due(when + ", BARS", x.told(4), want.length);
        for (int b = 0; b < want.length; b++) {
            due(when + ", BAR " + b, shown(x, b), want[b]);
        }
    }

    static int wrong() {
        return wrong;
    }

    static void end(String name) {
        String told = sentences == 0 ? "" : " under " + sentences + " sentences";
        System.out.println(name + ": " + asked + " answers looked at" + told + ", " + wrong + " not as due");
        if (wrong != 0) {
            System.exit(1);
        }
    }

    static void types(PlayedWritten x, String text) {
        for (int i = 0; i < text.length(); i++) {
            x.type(text.charAt(i));
        }
    }

    /** BAR b of the best writing as a text, read by shown up to NONE. */
    static String shown(PlayedWritten x, int b) {
        StringBuilder text = new StringBuilder();
        for (int i = 0; i < 200; i++) {
            int sign = x.shown(b, i);
            if (sign < 0) {
                return text.toString();
            }
            text.append((char) sign);
        }
        return text.append("..").toString();
    }

    /** Settings as sets takes them: BARS, LENGTH, and so on. */
    static void set(PlayedWritten x, int... values) {
        for (int what = 0; what < values.length; what++) {
            x.sets(what, values[what]);
        }
    }

    static PlayedWritten with(int... times) {
        PlayedWritten x = new PlayedWritten();
        for (int t : times) {
            x.strikes(t);
        }
        return x;
    }
}
