/** How the class is used: README.md shows this program and what it prints. */
public final class Example {
    public static void main(String[] args) {
        PlayedWritten x = new PlayedWritten();  // 2 BARS of 216 ticks, no STROKES
        x.strikes(0);
        x.strikes(110);
        x.strikes(300);
        tell("COST of the best writing", x.cost());
        System.out.println("its BARS: " + shown(x, 0) + " and " + shown(x, 1));
        tell("STROKE 1: its BAR", x.written(1, 0));
        tell("STROKE 1: where in the BAR, of 216", x.written(1, 1));
        tell("STROKE 1: its ERROR (2 ticks, times 216)", x.written(1, 2));
        tell("COST with each BAR divided in three", x.forced(3));
        tell("COST without STROKE 2", x.without(2));

        for (char sign : "[1{1-1}] 2".toCharArray()) {
            x.type(sign);
        }
        tell("STROKES, when THE TEXT is played", x.plays());
        tell("TIME of STROKE 2", x.time(2));
        x.back();
        tell("STROKES, when that is taken back", x.told(3));

        tell("a STROKE at a TIME that can not be", x.strikes(2000));
        tell("calls that were BAD", x.told(0));
    }

    private static void tell(String what, int answer) {
        System.out.println(what + ": " + answer);
    }

    private static String shown(PlayedWritten x, int b) {
        StringBuilder text = new StringBuilder();
        for (int i = 0; x.shown(b, i) != PlayedWritten.NONE; i++) {
            text.append((char) x.shown(b, i));
        }
        return text.toString();
    }
}
