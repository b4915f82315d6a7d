/** Counts the answers that are not as due, and ends a test with exit code 1 if there were any. */
final class Check {
    private static int wrong = 0;
    private static int asked = 0;

    private Check() {
    }

    static void due(String call, long got, long want) {
        asked++;
        if (got != want) {
            wrong++;
            if (wrong <= 40) {
                System.out.println(call + " answered " + got + ", due is " + want);
            }
        }
    }

    static void due(String call, String got, String want) {
        asked++;
        if (!got.equals(want)) {
            wrong++;
            System.out.println(call + " answered " + got + ", due is " + want);
        }
    }

    static void holds(String what, boolean so) {
        asked++;
        if (!so) {
            wrong++;
            System.out.println(what + ": does not hold");
        }
    }

    static int wrong() {
        return wrong;
    }

    static void end(String name) {
        System.out.println(name + ": " + asked + " answers looked at, " + wrong + " not as due");
        if (wrong != 0) {
            System.exit(1);
        }
    }

    static void types(PlayedWritten x, String text) {
        for (int i = 0; i < text.length(); i++) {
            x.type(text.charAt(i));
        }
    }

    /** BAR b of the best writing as a text, read by shown up to NONE. */
    static String shown(PlayedWritten x, int b) {
        StringBuilder text = new StringBuilder();
        for (int i = 0; i < 200; i++) {
            int sign = x.shown(b, i);
            if (sign < 0) {
                return text.toString();
            }
            text.append((char) sign);
        }
        return text.append("..").toString();
    }

    static PlayedWritten with(int... times) {
        PlayedWritten x = new PlayedWritten();
        for (int t : times) {
            x.strikes(t);
        }
        return x;
    }
}
