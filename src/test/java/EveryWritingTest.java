import java.util.ArrayList;
import java.util.List;
import java.util.Random;

/**
 * Small cases in which every single writing is made, its cost added up from the document's words,
 * and the best one taken by comparing whole writings: the order of likes is not taken apart.
 */
public final class EveryWritingTest {
    /** A SPAN that is told whole: its text, and what it costs beside the changes. */
    private record Tree(int kind, int from, int level, int first, int end, List<Tree> parts) {
        String text() {
            StringBuilder s = new StringBuilder();
            if (kind == 0) {
                return first == end ? "-" : s.append(end - first).toString();
            }
            s.append(" [<{".charAt(kind));
            for (Tree part : parts) {
                s.append(part.text());
            }
            return s.append(" ]>}".charAt(kind)).toString();
        }
    }

    private record Bar(int ticks, Tree tree, long cost) {
    }

    private final int[] times;
    private final int[] set;
    private List<Bar> best = null;
    private long least = Long.MAX_VALUE;
    private long leastExact = Long.MAX_VALUE;
    private final long[] leastForced = {Long.MAX_VALUE, Long.MAX_VALUE, Long.MAX_VALUE, Long.MAX_VALUE};

    private EveryWritingTest(int[] times, int[] set) {
        this.times = times;
        this.set = set;
    }

    public static void main(String[] args) {
        Random random = new Random(11);
        for (int n = 0; n < 90; n++) {
            oneCase(random, 1, random.nextInt(5), 2);
        }
        for (int n = 0; n < 60; n++) {
            oneCase(random, 2, random.nextInt(4), 1);
        }
        for (int n = 0; n < 20; n++) {
            oneCase(random, 3, random.nextInt(3), 1);
        }
        for (int n = 0; n < 8; n++) {
            oneCase(random, 2, random.nextInt(3), 2);
        }
        Check.end("EveryWritingTest");
    }

    private static void oneCase(Random random, int bars, int strokes, int depth) {
        int[] set = {bars, 48 + 6 * random.nextInt(65), random.nextInt(3) * 6, random.nextInt(6) == 0 ? 0 : depth,
            random.nextInt(3) * 3, random.nextInt(3) * 4, random.nextInt(3) * 4, random.nextInt(3) * 5,
            random.nextInt(3), random.nextInt(10)};
        PlayedWritten x = new PlayedWritten();
        for (int what = 0; what < 10; what++) {
            x.sets(what, set[what]);
        }
        int[] times = new int[strokes];
        for (int k = 0; k < strokes; k++) {
            x.strikes(6 * random.nextInt(set[0] * set[1] / 6 + 4));
        }
        StringBuilder name = new StringBuilder("set " + java.util.Arrays.toString(set) + " times");
        for (int k = 0; k < strokes; k++) {
            times[k] = x.time(k);
            name.append(' ').append(times[k]);
        }
        EveryWritingTest all = new EveryWritingTest(times, set);
        all.bars(new ArrayList<>(), 0, set[1], 0, 0);
        Check.due(name + ": cost()", x.cost(), all.least);
        Check.due(name + ": exact()", x.exact(), all.leastExact == Long.MAX_VALUE ? -1 : all.leastExact);
        for (int way = 0; way < 4; way++) {
            boolean no = way > 0 && set[3] == 0;
            Check.due(name + ": forced(" + way + ")", x.forced(way), no ? PlayedWritten.NO : all.leastForced[way]);
        }
        for (int b = 0; b < bars; b++) {
            Check.due(name + ": ticks of " + b, x.bar(b, 0), all.best.get(b).ticks());
            Check.due(name + ": shown " + b, Check.shown(x, b), all.best.get(b).tree().text());
        }
    }

    private void bars(List<Bar> ahead, int begin, int ticksAhead, int first, long cost) {
        int b = ahead.size();
        if (b == set[0]) {
            if (first == times.length) {
                look(ahead, cost);
            }
            return;
        }
        for (int ticks = set[1] - set[2]; ticks <= set[1] + set[2]; ticks += Math.max(1, set[2])) {
            long change = 216L * set[8] * Math.abs(ticks - ticksAhead);
            for (int end = first; end <= times.length; end++) {
                if (b == set[0] - 1 && end < times.length) {
                    continue;
                }
                for (Tree tree : trees(0, 216, 0, first, end)) {
                    Bar bar = new Bar(ticks, tree, cost(tree, begin, ticks));
                    ahead.add(bar);
                    bars(ahead, begin + ticks, ticks, end, cost + change + bar.cost());
                    ahead.remove(b);
                }
            }
        }
    }

    private void look(List<Bar> writing, long cost) {
        if (cost < least || cost == least && compare(writing, best) < 0) {
            least = cost;
            best = new ArrayList<>(writing);
        }
        boolean same = true;
        for (Bar bar : writing) {
            same &= bar.tree().kind() == writing.get(0).tree().kind();
        }
        if (same) {
            int way = writing.get(0).tree().kind();
            leastForced[way] = Math.min(leastForced[way], cost);
        }
        if (cost < leastExact) {
            int begin = 0;
            boolean exact = true;
            for (Bar bar : writing) {
                exact &= exact(bar.tree(), begin, bar.ticks());
                begin += bar.ticks();
            }
            leastExact = exact ? cost : leastExact;
        }
    }

    private boolean exact(Tree tree, int begin, int ticks) {
        boolean exact = true;
        for (int k = tree.first(); k < tree.end() && tree.kind() == 0; k++) {
            exact &= 216 * (times[k] - begin) == ticks * tree.from();
        }
        for (Tree part : tree.parts()) {
            exact &= exact(part, begin, ticks);
        }
        return exact;
    }

    private long cost(Tree tree, int begin, int ticks) {
        long cost = tree.kind() == 0 ? 0 : 216L * set[3 + tree.kind()];
        for (int k = tree.first(); k < tree.end() && tree.kind() == 0; k++) {
            cost += Math.abs(216 * (times[k] - begin) - ticks * tree.from());
            cost += k > tree.first() && times[k] - times[k - 1] > set[9] ? 216L * set[7] : 0;
        }
        for (Tree part : tree.parts()) {
            cost += cost(part, begin, ticks);
        }
        return cost;
    }

    private List<Tree> trees(int from, int size, int level, int first, int end) {
        List<Tree> all = new ArrayList<>();
        all.add(new Tree(0, from, level, first, end, List.of()));
        if (level == set[3]) {
            return all;
        }
        int third = size / 3;
        for (int m = first; m <= end; m++) {
            for (Tree one : trees(from, size / 2, level + 1, first, m)) {
                for (Tree two : trees(from + size / 2, size / 2, level + 1, m, end)) {
                    all.add(new Tree(1, from, level, first, end, List.of(one, two)));
                }
            }
            for (Tree one : trees(from, 2 * third, level + 1, first, m)) {
                for (Tree two : trees(from + 2 * third, third, level + 1, m, end)) {
                    all.add(new Tree(2, from, level, first, end, List.of(one, two)));
                }
            }
            for (int n = m; n <= end; n++) {
                for (Tree one : trees(from, third, level + 1, first, m)) {
                    for (Tree two : trees(from + third, third, level + 1, m, n)) {
                        for (Tree three : trees(from + 2 * third, third, level + 1, n, end)) {
                            all.add(new Tree(3, from, level, first, end, List.of(one, two, three)));
                        }
                    }
                }
            }
        }
        return all;
    }

    /** The order of likes: all BARS by ticks and how many, then the SPANS, those of a LEVEL together. */
    private static int compare(List<Bar> one, List<Bar> other) {
        for (int b = 0; b < one.size(); b++) {
            Bar x = one.get(b);
            Bar y = other.get(b);
            if (x.ticks() != y.ticks()) {
                return x.ticks() - y.ticks();
            }
            if (x.tree().end() != y.tree().end()) {
                return x.tree().end() - y.tree().end();
            }
        }
        for (int b = 0; b < one.size(); b++) {
            int order = compare(one.get(b).tree(), other.get(b).tree());
            if (order != 0) {
                return order;
            }
        }
        return 0;
    }

    private static int compare(Tree one, Tree other) {
        List<Tree> xs = new ArrayList<>(List.of(one));
        List<Tree> ys = new ArrayList<>(List.of(other));
        for (int i = 0; i < xs.size(); i++) {
            Tree x = xs.get(i);
            Tree y = ys.get(i);
            if (x.kind() != y.kind()) {
                return x.kind() - y.kind();
            }
            for (int p = 0; p + 1 < x.parts().size(); p++) {
                if (x.parts().get(p).end() != y.parts().get(p).end()) {
                    return x.parts().get(p).end() - y.parts().get(p).end();
                }
            }
            xs.addAll(x.parts());
            ys.addAll(y.parts());
        }
        return 0;
    }
}
