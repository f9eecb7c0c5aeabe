import java.nio.charset.StandardCharsets;
import java.util.Arrays;
import java.util.Random;

/** Runs of some 500 drawn calls on ClockChoir and on PlainChoir, which must answer alike (seeds are fixed). */
public final class RandomRunsTest {
    // A step makes 14 calls at most, and an object is used for 512.
    private static final int CALLS = 498;

    private final Random random;
    private final ClockChoir x = new ClockChoir();
    private final PlainChoir y = new PlainChoir();
    private int calls;

    private RandomRunsTest(long seed) {
        random = new Random(seed);
    }

    public static void main(String[] args) {
        int runs = args.length > 0 ? Integer.parseInt(args[0]) : 120;
        int first = args.length > 1 ? Integer.parseInt(args[1]) : 0;
        for (int run = first; run < first + runs; run++) {
            new RandomRunsTest(run).go(run);
        }
        Due.finish("RandomRunsTest");
    }

    private void go(int run) {
        int told = random.nextInt(9);
        for (int i = 0; i < told; i++) {
            step(0, run);
            step(3, run);
        }
        while (calls < CALLS) {
            step(random.nextInt(44), run);
        }
    }

    private int of(int low, int high) {
        return low + random.nextInt(high - low + 1);
    }

    /** Mostly within the bounds, at times at or beyond them. */
    private int near(int low, int high) {
        switch (random.nextInt(24)) {
            case 0:
                return low - 1;
            case 1:
                return high + 1;
            case 2:
                return low;
            case 3:
                return high;
            case 4:
                return random.nextInt(8) == 0 ? random.nextInt() : of(low, high);
            default:
                return of(low, high);
        }
    }

    private int who() {
        return near(0, 7);
    }

    private int some() {
        return random.nextInt(6) == 0 ? near(1, 240) : near(1, 30);
    }

    private void same(int run, String call, long got, long want) {
        calls++;
        Due.due("run " + run + ", call " + calls + ": " + call, want, got);
    }

    private void same(int run, String call, boolean got, boolean want) {
        same(run, call, got ? 1 : 0, want ? 1 : 0);
    }

    private int feed(String text, int run) {
        byte[] bytes = text.getBytes(StandardCharsets.ISO_8859_1);
        int length = bytes.length;
        bytes = Arrays.copyOf(bytes, (length + 19) / 20 * 20);
        for (int k = 0; k < bytes.length; k += 20) {
            int[] w = new int[5];
            for (int b = 0; b < 20; b++) {
                w[b / 4] = w[b / 4] << 8 | bytes[k + b] & 255;
            }
            same(run, "feed", x.feed(w[0], w[1], w[2], w[3], w[4]), y.feed(w));
        }
        return random.nextInt(30) == 0 ? near(0, 260) : length;
    }

    private String spoilt(String text, String signs, int odds) {
        if (random.nextInt(odds) != 0 || text.isEmpty()) {
            return text;
        }
        int at = random.nextInt(text.length());
        String sign = "" + signs.charAt(random.nextInt(signs.length()));
        switch (random.nextInt(4)) {
            case 0:
                return text.substring(0, at) + sign + text.substring(at);
            case 1:
                return text.substring(0, at) + text.substring(at + 1);
            case 2:
                return text.substring(0, at);
            default:
                return text.substring(0, at) + sign + text.substring(at + 1);
        }
    }

    private String items(int open) {
        StringBuilder text = new StringBuilder();
        int many = of(1, open == 0 ? 7 : 3);
        for (int k = 0; k < many; k++) {
            if (random.nextInt(5) == 0 && open < of(1, 3)) {
                text.append('(').append(items(open + 1)).append(')');
                text.append(random.nextInt(3) == 0 ? "" : "x" + of(2, random.nextInt(4) == 0 ? 9 : 4));
                continue;
            }
            text.append(random.nextInt(5) == 0 ? '.' : (char) of('a', 'g'));
            text.append(random.nextInt(3) == 0 ? "" + of(2, random.nextInt(3) == 0 ? 9 : 3) : "");
            text.append(random.nextInt(6) == 0 ? "^" : "");
            text.append(random.nextInt(6) == 0 ? "," : "");
        }
        return text.toString();
    }

    private String factor(int deep) {
        switch (random.nextInt(deep < 7 ? 7 : 5)) {
            case 0:
            case 1:
                return "" + of(0, random.nextInt(4) == 0 ? 99999 : 12);
            case 2:
            case 3:
            case 4:
                return "" + "sdpanlkt".charAt(random.nextInt(8));
            default:
                return "[" + sum(deep + 1) + "]";
        }
    }

    private String sum(int deep) {
        StringBuilder text = new StringBuilder(factor(deep));
        while (random.nextInt(3) == 0) {
            text.append("+-*/%".charAt(random.nextInt(5))).append(factor(deep));
        }
        return text.toString();
    }

    private String test(int deep) {
        int kind = random.nextInt(deep < 8 ? 9 : 7);
        if (kind == 7) {
            return "!" + test(deep + 1);
        }
        if (kind == 8) {
            return "(" + choice(deep + 1) + ")";
        }
        return sum(deep) + "<>=".charAt(random.nextInt(3)) + sum(deep);
    }

    private String choice(int deep) {
        StringBuilder text = new StringBuilder(test(deep));
        while (random.nextInt(3) == 0) {
            text.append("&|".charAt(random.nextInt(2))).append(test(deep));
        }
        return text.toString();
    }

    private String rules() {
        StringBuilder text = new StringBuilder();
        int many = random.nextInt(12) == 0 ? of(10, 18) : of(1, 5);
        for (int k = 0; k < many; k++) {
            String kind = "" + "uvbcx".charAt(random.nextInt(random.nextInt(3) == 0 ? 5 : 4));
            boolean brief = many > 9;
            String worth = kind.equals("x") ? "" : random.nextInt(2) == 0 || brief ? "" + of(0, 12) : sum(0);
            String when = brief ? "s=" + of(0, 7) : random.nextInt(4) == 0 ? "1=1" : choice(1);
            text.append(k > 0 ? ";" : "").append(kind).append(worth).append('(').append(when).append(')');
        }
        return text.toString();
    }

    private void step(int which, int run) {
        if (which < 10) {
            tell(which, run);
        } else if (which < 23) {
            sing(which, run);
        } else if (which < 33) {
            look(which, run);
        } else {
            compare(which, run);
        }
    }

    private void tell(int which, int run) {
        switch (which) {
            case 0: {
                int i = who();
                int d = near(-20, 20);
                int s = near(0, random.nextBoolean() ? 15 : 3);
                int f = near(0, random.nextBoolean() ? 3 : 1);
                int l = near(1, 20);
                same(run, "singer", x.singer(i, d, s, f, l), y.singer(i, d, s, f, l));
                break;
            }
            case 1: {
                int n = near(0, 15);
                same(run, "ears", x.ears(n), y.ears(n));
                break;
            }
            case 2: {
                int n = random.nextBoolean() ? near(60, 600) : of(60, 90);
                same(run, "tempo", x.tempo(n), y.tempo(n));
                break;
            }
            case 3:
            case 4: {
                String text = spoilt(items(0), "abg.29^,()x1h", 4);
                int n = feed(text, run);
                int i = who();
                same(run, "roll(" + i + ", " + n + ") of " + text, x.roll(i, n), y.roll(i, n));
                break;
            }
            case 5:
            case 6: {
                String text = rules();
                if (text.length() > 240) {
                    text = text.substring(0, of(1, 240));
                }
                text = spoilt(text, "uvbcxsdpanlkt059[]()!&|<>=+-*/%;", 4);
                int n = feed(text, run);
                same(run, "law(" + n + ") of " + text, x.law(n), y.law(n));
                break;
            }
            case 7:
                if (random.nextInt(4) == 0) {
                    same(run, "anew", x.anew(), y.anew());
                }
                break;
            case 8: {
                int n = near(0, 65535);
                same(run, "seed", x.seed(n), y.seed(n));
                break;
            }
            default: {
                StringBuilder ats = new StringBuilder();
                for (int i = 0; i < 8; i++) {
                    int at = Math.max(0, x.singerIs(i, 3));
                    calls++;
                    ats.append((char) (random.nextInt(16) == 0 ? of(0, 255) : at));
                }
                feed(ats.toString(), run);
                int n = near(0, 8);
                same(run, "check(" + n + ")", x.check(n), y.check(n));
                break;
            }
        }
    }

    private void sing(int which, int run) {
        int n = some();
        int what = near(0, 1);
        switch (which) {
            case 10:
                same(run, "keep", x.keep(), y.keep());
                break;
            case 11:
                same(run, "undo", x.undo(), y.undo());
                break;
            case 12:
            case 13:
            case 14: {
                int more = random.nextInt(8) == 0 ? n : near(1, 4);
                same(run, "ticks(" + more + ")", x.ticks(more), y.ticks(more));
                break;
            }
            case 15:
            case 16:
            case 17: {
                int of = random.nextBoolean() ? near(0, 3) : 10 * of(1, 3) + who();
                same(run, "tried(" + n + ", " + of + ")", x.tried(n, of), y.tried(n, of));
                break;
            }
            case 18:
                same(run, "end(" + n + ", " + what + ")", x.end(n, what), y.end(n, what));
                break;
            case 19:
                same(run, "spread(" + n + ")", x.spread(n), y.spread(n));
                break;
            case 20:
                same(run, "firstCome(" + n + ", " + what + ")", x.firstCome(n, what), y.firstCome(n, what));
                break;
            case 21: {
                int i = who();
                int j = who();
                same(run, "together", x.together(i, j, n), y.together(i, j, n));
                break;
            }
            default: {
                int i = who();
                same(run, "alone", x.alone(i), y.alone(i));
                break;
            }
        }
    }

    private void look(int which, int run) {
        int i = who();
        int k = near(0, 59);
        switch (which) {
            case 23:
            case 24: {
                int what = near(0, 9);
                same(run, "singerIs(" + i + ", " + what + ")", x.singerIs(i, what), y.singerIs(i, what));
                break;
            }
            case 25:
                same(run, "drift", x.drift(i), y.drift(i));
                break;
            case 26:
            case 27: {
                int what = near(0, 3);
                k = near(0, 20);
                same(run, "beat", x.beat(i, k, what), y.beat(i, k, what));
                break;
            }
            case 28:
                same(run, "attacks", x.attacks(k), y.attacks(k));
                break;
            case 29:
                k = near(0, 12);
                same(run, "tune", x.tune(i, k), y.tune(i, k));
                break;
            case 30: {
                int what = near(0, 1);
                same(run, "sounds(" + what + ")", x.sounds(what), y.sounds(what));
                break;
            }
            default: {
                int what = near(0, 28);
                same(run, "count(" + what + ")", x.count(what), y.count(what));
                break;
            }
        }
    }

    private void compare(int which, int run) {
        int i = who();
        int j = who();
        int what = near(0, 1);
        int t = random.nextInt(3) == 0 ? near(0, 100000) : near(0, 300);
        switch (which) {
            case 33: {
                int of = random.nextBoolean() ? near(0, 59) : near(100, 101);
                same(run, "canon", x.canon(i, j, of), y.canon(i, j, of));
                break;
            }
            case 34: {
                int of = near(0, 3);
                same(run, "returns", x.returns(i, j, of), y.returns(i, j, of));
                break;
            }
            case 35:
                same(run, "backwards", x.backwards(i, j), y.backwards(i, j));
                break;
            case 36:
                same(run, "range", x.range(i), y.range(i));
                same(run, "key", x.key(i, what), y.key(i, what));
                break;
            case 37:
            case 38: {
                int k = near(1, 20);
                int of = random.nextInt(3) == 0 ? 100 : near(0, random.nextBoolean() ? 59 : 6);
                same(run, "breaths", x.breaths(i, k, of), y.breaths(i, k, of));
                break;
            }
            case 39:
                same(run, "clock", x.clock(i, t), y.clock(i, t));
                break;
            case 40:
                same(run, "meet", x.meet(i, j), y.meet(i, j));
                break;
            case 41: {
                int apart = random.nextBoolean() ? near(0, 9999) : near(0, 60);
                same(run, "agree", x.agree(t, apart, what), y.agree(t, apart, what));
                break;
            }
            case 42: {
                int of = random.nextBoolean() ? 100 : i;
                same(run, "leads", x.leads(i), y.leads(i));
                same(run, "groups", x.groups(of), y.groups(of));
                break;
            }
            default:
                same(run, "order", x.order(what), y.order(what));
                break;
        }
    }
}
