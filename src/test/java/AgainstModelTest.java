import java.util.Random;

/** Random runs of calls, the same each time, on the class and on the model: every answer alike. */
public final class AgainstModelTest {
    private static final int[] LOW = {1, 48, 0, 0, 0, 0, 0, 0, 0, 0};
    private static final int[] HIGH = {3, 432, 24, 3, 99, 99, 99, 99, 99, 50};
    private static final String SIGNS = "[[[]]<<>>{{}}1112345678-- 09x";

    private final Random random;
    private final PlayedWritten x = new PlayedWritten();
    private final Model m = new Model();

    private AgainstModelTest(long seed) {
        random = new Random(seed);
    }

    public static void main(String[] args) {
        int runs = args.length > 0 ? Integer.parseInt(args[0]) : 150;
        for (int run = 0; run < runs && Check.wrong() < 5; run++) {
            new AgainstModelTest(run).run(run);
        }
        Check.end("AgainstModelTest");
    }

    private void run(int run) {
        for (int call = 0; call < 60; call++) {
            int which = random.nextInt(40);
            String name = "run " + run + " call " + call + ": ";
            if (which < 14) {
                change(name, which);
            } else if (which < 20) {
                text(name, which);
            } else {
                ask(name, which);
            }
        }
        Check.due("run " + run + " digest()", x.digest(), m.digest());
    }

    /** Mostly a number from least to most, sometimes one beside or far off. */
    private int number(int least, int most) {
        switch (random.nextInt(30)) {
            case 0: return least - 1;
            case 1: return most + 1;
            case 2: return random.nextInt();
            case 3: return least;
            case 4: return most;
            default: return least + random.nextInt(most - least + 1);
        }
    }

    private int stroke() {
        return number(0, Math.max(0, m.times.size() - 1));
    }

    private int time() {
        return random.nextInt(8) == 0 ? number(0, 1999) : 12 * random.nextInt(54) + random.nextInt(3);
    }

    private void change(String name, int which) {
        int v;
        switch (which) {
            case 0: case 1: case 2: case 3:
                v = time();
                Check.due(name + "strikes(" + v + ")", x.strikes(v), m.strikes(v));
                break;
            case 4:
                v = stroke();
                Check.due(name + "lifts(" + v + ")", x.lifts(v), m.lifts(v));
                break;
            case 5: case 6:
                v = stroke();
                int t = random.nextInt(6) == 0 ? number(0, 1999) : time();
                Check.due(name + "moves(" + v + ", " + t + ")", x.moves(v, t), m.moves(v, t));
                break;
            case 7:
                v = number(0, 999999);
                int n = number(0, 8);
                Check.due(name + "draws(" + v + ", " + n + ")", x.draws(v, n), m.draws(v, n));
                break;
            case 8:
                v = random.nextInt(3) == 0 ? number(-500, 500) : random.nextInt(41) - 20;
                Check.due(name + "shifts(" + v + ")", x.shifts(v), m.shifts(v));
                break;
            case 9:
                Check.due(name + "back()", x.back(), m.back());
                break;
            default:
                int what = number(0, 9);
                boolean known = what >= 0 && what < 10;
                // Small prices make likes, which the order of the document must settle.
                v = !known ? 1 : random.nextInt(3) == 0 ? LOW[what] : number(LOW[what], HIGH[what]);
                Check.due(name + "sets(" + what + ", " + v + ")", x.sets(what, v), m.sets(what, v));
        }
    }

    private void text(String name, int which) {
        if (which < 17) {
            if (random.nextInt(3) > 0) {
                Check.due(name + "clear()", x.clear(), m.clear());
            }
            String text = random.nextInt(3) == 0 ? noise() : bars();
            for (int i = 0; i < text.length(); i++) {
                Check.due(name + "type", x.type(text.charAt(i)), m.type(text.charAt(i)));
            }
        } else if (which == 17) {
            int c = number(0, 127);
            Check.due(name + "type(" + c + ")", x.type(c), m.type(c));
        }
        Check.due(name + "plays()", x.plays(), m.plays());
    }

    private String noise() {
        StringBuilder text = new StringBuilder();
        int length = random.nextInt(12);
        for (int i = 0; i < length; i++) {
            text.append(SIGNS.charAt(random.nextInt(SIGNS.length())));
        }
        return text.toString();
    }

    private String bars() {
        StringBuilder text = new StringBuilder();
        int bars = 1 + random.nextInt(3) + random.nextInt(20) / 19;
        for (int b = 0; b < bars; b++) {
            span(text, 0);
        }
        return text.toString();
    }

    private void span(StringBuilder text, int level) {
        int kind = random.nextInt(2 + 2 * level);
        if (random.nextInt(6) == 0) {
            text.append(' ');
        }
        if (kind > 1 || level == 3 && random.nextInt(20) > 0 || level > 3) {
            text.append(random.nextInt(3) == 0 ? (char) ('1' + random.nextInt(3)) : '-');
            return;
        }
        int way = random.nextInt(3);
        text.append("[<{".charAt(way));
        for (int part = 0; part < (way == 2 ? 3 : 2); part++) {
            span(text, level + 1);
        }
        text.append("]>}".charAt(way));
    }

    private void ask(String name, int which) {
        int a;
        int b;
        switch (which) {
            case 20:
                a = stroke();
                Check.due(name + "time(" + a + ")", x.time(a), m.time(a));
                break;
            case 21: case 22: case 23: case 24:
                a = number(0, m.set[0] - 1);
                b = number(0, 8);
                Check.due(name + "bar(" + a + ", " + b + ")", x.bar(a, b), m.bar(a, b));
                break;
            case 25: case 26: case 27:
                a = stroke();
                b = number(0, 5);
                Check.due(name + "written(" + a + ", " + b + ")", x.written(a, b), m.written(a, b));
                break;
            case 28: case 29: case 30:
                a = number(0, m.set[0] - 1);
                b = number(0, 20);
                Check.due(name + "shown(" + a + ", " + b + ")", x.shown(a, b), m.shown(a, b));
                break;
            case 31: case 32:
                a = number(0, 6);
                Check.due(name + "count(" + a + ")", x.count(a), m.count(a));
                break;
            case 33:
                a = number(0, 24);
                Check.due(name + "bent(" + a + ")", x.bent(a), m.bent(a));
                break;
            case 34: case 35:
                a = number(0, 3);
                Check.due(name + "forced(" + a + ")", x.forced(a), m.forced(a));
                break;
            case 36:
                a = stroke();
                Check.due(name + "without(" + a + ")", x.without(a), m.without(a));
                break;
            case 37:
                Check.due(name + "exact()", x.exact(), m.exact());
                break;
            case 38:
                a = number(0, 15);
                Check.due(name + "told(" + a + ")", x.told(a), m.told(a));
                break;
            default:
                Check.due(name + "cost()", x.cost(), m.cost());
                for (int bar = 0; bar < m.set[0]; bar++) {
                    StringBuilder text = new StringBuilder();
                    for (int i = 0; m.shown(bar, i) != Model.NONE; i++) {
                        text.append((char) m.shown(bar, i));
                    }
                    Check.due(name + "shown", Check.shown(x, bar), text.toString());
                }
        }
    }
}
