import java.util.ArrayList;
import java.util.List;
import java.util.function.Consumer;
import java.util.function.ToIntFunction;

/**
 * "Refused, changing nothing but how often": every call that can be refused, with each number beside
 * its bounds and far off, on objects that are new, in use and full in every way. What such an object
 * does afterwards, back to its oldest STATE and with all of THE TEXT, is what its untouched twin does.
 */
public final class RefusalsEdgesTest {
    private static final int BAD = PlayedWritten.BAD, NO = PlayedWritten.NO, FULL = PlayedWritten.FULL;
    private static final int MIN = Check.MIN, MAX = Check.MAX;

    /** A call by name, and what it must answer. */
    private record Call(String name, int due, ToIntFunction<PlayedWritten> run) {
    }

    /** How an object is made: its STROKES, BARS, DEPTH and bytes, and the calls that bring it there. */
    private record Kind(String name, int strokes, int bars, int depth, int bytes, Consumer<PlayedWritten> make) {
    }

    public static void main(String[] args) {
        Check.sentence("Refused, changing nothing but how often");
        for (Kind kind : kinds()) {
            for (Call call : refusedCalls(kind)) {
                changesOnlyHowOften(kind, call);
            }
        }
        Check.sentence("By a FAULT nothing counts");
        for (Kind kind : kinds()) {
            for (String text : new String[] {"", "9", "[1", "8-1", "1111", "{{{{"}) {
                changesNothing(kind, new Call("plays() of " + text, 0, x -> plays(x, text)));
            }
        }
        Check.sentence("a call that is not told S changes nothing");
        for (Kind kind : kinds()) {
            for (Call call : questions(kind)) {
                changesNothing(kind, call);
            }
        }
        Check.end("RefusalsEdgesTest");
    }

    private static List<Kind> kinds() {
        List<Kind> all = new ArrayList<>();
        all.add(new Kind("new", 0, 2, 2, 0, x -> { }));
        all.add(new Kind("in use", 3, 3, 2, 4, x -> {
            Check.set(x, 3, 200, 12, 2, 3, 5, 4, 6, 1, 4);
            x.draws(17, 3);
            Check.types(x, "[11]");
        }));
        all.add(new Kind("full", 8, 1, 0, 60, x -> {
            for (int n = 0; n < 8; n++) {
                x.strikes(31 * n % 100);
            }
            x.sets(0, 1);
            x.sets(3, 0);
            Check.types(x, "[1<-1>]{---}" + " ".repeat(47) + "1");
        }));
        return all;
    }

    private static int plays(PlayedWritten x, String text) {
        x.clear();
        Check.types(x, text);
        int answer = x.plays();
        x.clear();
        return answer <= -10 ? 0 : answer;
    }

    private static List<Call> refusedCalls(Kind kind) {
        List<Call> all = new ArrayList<>();
        int many = kind.strokes();
        for (int t : new int[] {-1, 2000, MIN, MAX}) {
            all.add(new Call("strikes(" + t + ")", BAD, x -> x.strikes(t)));
        }
        for (int k : new int[] {-1, many, 8, MIN, MAX}) {
            all.add(new Call("lifts(" + k + ")", BAD, x -> x.lifts(k)));
            all.add(new Call("time(" + k + ")", BAD, x -> x.time(k)));
            all.add(new Call("without(" + k + ")", BAD, x -> x.without(k)));
            all.add(new Call("moves(" + k + ", 0)", BAD, x -> x.moves(k, 0)));
            all.add(new Call("moves(" + k + ", 2000)", BAD, x -> x.moves(k, 2000)));
            all.add(new Call("written(" + k + ", 0)", BAD, x -> x.written(k, 0)));
        }
        for (int t : new int[] {-1, 2000, MIN, MAX}) {
            all.add(new Call("moves(0, " + t + ")", BAD, x -> x.moves(0, t)));
        }
        for (int n : new int[] {-1, 9, MIN, MAX}) {
            all.add(new Call("draws(0, " + n + ")", BAD, x -> x.draws(0, n)));
        }
        for (int seed : new int[] {-1, 1000000, MIN, MAX}) {
            all.add(new Call("draws(" + seed + ", 8)", BAD, x -> x.draws(seed, 8)));
        }
        for (int v : new int[] {-501, 501, MIN, MAX}) {
            all.add(new Call("shifts(" + v + ")", BAD, x -> x.shifts(v)));
        }
        addSettings(all);
        addFacts(all, kind);
        addFull(all, kind);
        return all;
    }

    private static void addSettings(List<Call> all) {
        int[] below = {0, 47, -1, -1, -1, -1, -1, -1, -1, -1};
        int[] above = {4, 433, 25, 4, 100, 100, 100, 100, 100, 51};
        for (int n = 0; n < 10; n++) {
            int what = n;
            for (int v : new int[] {below[n], above[n], MIN, MAX}) {
                all.add(new Call("sets(" + what + ", " + v + ")", BAD, x -> x.sets(what, v)));
            }
        }
        for (int what : new int[] {-1, 10, MIN, MAX}) {
            all.add(new Call("sets(" + what + ", 1)", BAD, x -> x.sets(what, 1)));
        }
    }

    private static void addFacts(List<Call> all, Kind kind) {
        for (int b : new int[] {-1, kind.bars(), 3, MIN, MAX}) {
            all.add(new Call("bar(" + b + ", 0)", BAD, x -> x.bar(b, 0)));
            all.add(new Call("shown(" + b + ", 0)", BAD, x -> x.shown(b, 0)));
        }
        for (int what : new int[] {-1, 9, MIN, MAX}) {
            all.add(new Call("bar(0, " + what + ")", BAD, x -> x.bar(0, what)));
        }
        for (int what : new int[] {-1, 6, MIN, MAX}) {
            all.add(new Call("written(0, " + what + ")", BAD, x -> x.written(0, what)));
        }
        for (int i : new int[] {-1, MIN}) {
            all.add(new Call("shown(0, " + i + ")", BAD, x -> x.shown(0, i)));
        }
        for (int what : new int[] {-1, 7, MIN, MAX}) {
            all.add(new Call("count(" + what + ")", BAD, x -> x.count(what)));
        }
        for (int v : new int[] {-1, 25, MIN, MAX}) {
            all.add(new Call("bent(" + v + ")", BAD, x -> x.bent(v)));
        }
        for (int way : new int[] {-1, 4, MIN, MAX}) {
            all.add(new Call("forced(" + way + ")", BAD, x -> x.forced(way)));
        }
        for (int c : new int[] {-1, 128, MIN, MAX}) {
            all.add(new Call("type(" + c + ")", BAD, x -> x.type(c)));
        }
        for (int what : new int[] {-1, 16, MIN, MAX}) {
            all.add(new Call("told(" + what + ")", BAD, x -> x.told(what)));
        }
    }

    private static void addFull(List<Call> all, Kind kind) {
        if (kind.strokes() == 8) {
            all.add(new Call("strikes(0)", FULL, x -> x.strikes(0)));
            all.add(new Call("strikes(1999)", FULL, x -> x.strikes(1999)));
        }
        if (kind.bytes() == 60) {
            all.add(new Call("type(0)", FULL, x -> x.type(0)));
            all.add(new Call("type(127)", FULL, x -> x.type(127)));
        }
        for (int n = 1; n <= 3 && kind.depth() == 0; n++) {
            int way = n;
            all.add(new Call("forced(" + way + ")", NO, x -> x.forced(way)));
        }
        if (kind.name().equals("new")) {
            all.add(new Call("back()", NO, PlayedWritten::back));
        }
    }

    private static List<Call> questions(Kind kind) {
        List<Call> all = new ArrayList<>();
        int last = kind.bars() - 1;
        all.add(new Call("cost()", 0, PlayedWritten::cost));
        all.add(new Call("exact()", 0, PlayedWritten::exact));
        all.add(new Call("bent(0)", 0, x -> x.bent(0)));
        all.add(new Call("bent(24)", 0, x -> x.bent(24)));
        all.add(new Call("forced(0)", 0, x -> x.forced(0)));
        all.add(new Call("bar(" + last + ", 8)", 0, x -> x.bar(last, 8)));
        all.add(new Call("shown(" + last + ", 0)", 0, x -> x.shown(last, 0)));
        all.add(new Call("shown(" + last + ", MAX)", 0, x -> x.shown(last, MAX)));
        all.add(new Call("count(6)", 0, x -> x.count(6)));
        all.add(new Call("told(15)", 0, x -> x.told(15)));
        all.add(new Call("digest()", 0, x -> (int) x.digest()));
        if (kind.depth() > 0) {
            all.add(new Call("forced(3)", 0, x -> x.forced(3)));
        }
        if (kind.strokes() > 0) {
            int k = kind.strokes() - 1;
            all.add(new Call("time(" + k + ")", 0, x -> x.time(k)));
            all.add(new Call("without(" + k + ")", 0, x -> x.without(k)));
            all.add(new Call("written(" + k + ", 5)", 0, x -> x.written(k, 5)));
        }
        return all;
    }

    private static void changesOnlyHowOften(Kind kind, Call call) {
        PlayedWritten x = new PlayedWritten();
        PlayedWritten twin = new PlayedWritten();
        kind.make().accept(x);
        kind.make().accept(twin);
        String name = kind.name() + ", " + call.name();
        Check.due(name, call.run().applyAsInt(x), call.due());
        for (int what = 0; what < 3; what++) {
            int more = what == BAD - call.due() ? 1 : 0;
            Check.due(name + ", told(" + what + ")", x.told(what), twin.told(what) + more);
        }
        Check.due(name + ", what comes of it", afterwards(x), afterwards(twin));
    }

    private static void changesNothing(Kind kind, Call call) {
        PlayedWritten x = new PlayedWritten();
        PlayedWritten twin = new PlayedWritten();
        kind.make().accept(x);
        kind.make().accept(twin);
        if (call.name().startsWith("plays")) {
            twin.clear();
        }
        int answer = call.run().applyAsInt(x);
        String name = kind.name() + ", " + call.name();
        if (call.name().startsWith("plays")) {
            Check.due(name, answer, call.due());
        }
        Check.due(name + ", digest()", x.digest(), twin.digest());
        Check.due(name + ", what comes of it", afterwards(x), afterwards(twin));
    }

    /** Answers of the calls that show all there is: STROKES, settings, the writing, THE TEXT, STATES. */
    private static String afterwards(PlayedWritten x) {
        StringBuilder all = new StringBuilder();
        tellState(all, x);
        for (int b = 0; b < x.told(4); b++) {
            all.append(Check.shown(x, b)).append(';');
        }
        for (int what = 0; what < 7; what++) {
            all.append(x.count(what)).append(',');
        }
        int states = x.told(15);
        for (int left = states; left > 0; left--) {
            all.append("back ").append(x.back()).append(':');
            tellState(all, x);
        }
        all.append("plays ").append(x.plays()).append(':');
        tellState(all, x);
        return all.toString();
    }

    private static void tellState(StringBuilder all, PlayedWritten x) {
        for (int what = 3; what < 16; what++) {
            all.append(x.told(what)).append(',');
        }
        for (int k = 0; k < x.told(3); k++) {
            all.append(x.time(k)).append(',');
        }
        all.append(x.cost()).append(';');
    }
}
