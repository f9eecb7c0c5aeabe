import java.util.ArrayList;
import java.util.List;
import java.util.function.ToLongFunction;

/** Each refused call, and each one that just asks, on a choir of its own: behind it all is as it was ahead of it. */
public final class RefusedTest {
    private static final int FULL = 260;

    private record Call(String name, long due, ToLongFunction<ClockChoir> call) {
    }

    private final List<Call> refused = new ArrayList<>();
    private final List<Call> asking = new ArrayList<>();

    public static void main(String[] args) {
        RefusedTest test = new RefusedTest();
        Due.by("A call that is refused (NONE, false) changes nothing but the tape, where it is told.");
        test.listTold();
        test.listTexts();
        test.listTicks();
        test.listWho();
        test.listMelodies();
        test.listClocks();
        for (Call call : test.refused) {
            changesNothing(call, true);
        }
        Due.by("Nothing is promised beyond the answers and state changes described above");
        test.listAsking();
        for (Call call : test.asking) {
            changesNothing(call, false);
        }
        theMiddle();
        fullTapeIsRefused();
        undoIsRefused();
        aFaultEmptiesTheTapeAlone();
        memoryIsTheChoirsOwn();
        theLastCall();
        Due.finish("RefusedTest");
    }

    private void no(String name, long due, ToLongFunction<ClockChoir> call) {
        refused.add(new Call(name, due, call));
    }

    private void no(String name, ToLongFunction<ClockChoir> call) {
        no(name, -1, call);
    }

    private void ask(String name, ToLongFunction<ClockChoir> call) {
        asking.add(new Call(name, 0, call));
    }

    /** The numbers beyond the bounds, on both sides. */
    private static int[] beyond(int low, int high) {
        return new int[] {low - 1, high + 1, Integer.MIN_VALUE, Integer.MAX_VALUE};
    }

    /**
     * In the middle of all: 0 sings, 1 WAITS, 2 has MISSED some, 5 is DONE, 6 is not told but has a ROLL; a state
     * is KEPT that is not the one now; the tape holds the ATs.
     */
    private static ClockChoir middle() {
        ClockChoir x = new ClockChoir();
        x.singer(0, 7, 3, 1, 9);
        x.singer(1, -3, 5, 2, 4);
        x.singer(2, 0, 9, 0, 1);
        x.singer(5, 20, 12, 3, 20);
        Due.roll(x, 0, "abc.2d^,ef");
        Due.roll(x, 1, "ab^c");
        Due.roll(x, 2, "(ga)x8");
        Due.roll(x, 5, "a");
        Due.roll(x, 6, "fga^");
        Due.law(x, "b1(1=1);u5(a>0);v3(a<0);c1(s=0)");
        x.ears(9);
        x.tempo(90);
        x.seed(4711);
        x.ticks(2);
        x.keep();
        x.ticks(4);
        byte[] ats = new byte[8];
        for (int i = 0; i < 8; i++) {
            ats[i] = (byte) Math.max(0, x.singerIs(i, 3));
        }
        Due.feed(x, ats);
        return x;
    }

    /** That there is enough in the middle of all which a call could spoil. */
    private static void theMiddle() {
        ClockChoir x = middle();
        Due.due("told", 0b100111, x.count(1));
        Due.due("1 WAITS", 2, x.count(3));
        Due.due("5 is DONE", 32, x.count(2));
        Due.due("0 has a PHASE", true, x.singerIs(0, 4) > 0);
        Due.due("2 has MISSED some", true, x.singerIs(2, 6) > 0);
        Due.due("KEPT is not now", true, x.count(0) > 2);
    }

    private static int[] state(ClockChoir x) {
        int[] row = new int[160];
        int k = 0;
        for (int i = 0; i < 8; i++) {
            for (int what = 0; what < 10; what++) {
                row[k++] = x.singerIs(i, what);
            }
            row[k++] = x.drift(i);
            row[k++] = x.count(10 + i);
            row[k++] = x.count(20 + i);
            row[k++] = x.tried(9, 10 + i);
        }
        for (int what = 0; what <= 8; what++) {
            row[k++] = x.count(what);
        }
        for (int what = 0; what <= 3; what++) {
            row[k++] = x.tried(9, what);
        }
        for (int b = 0; b < 8; b++) {
            row[k++] = x.beat(0, b, 0);
            row[k++] = x.beat(6, b, 0);
            row[k++] = x.beat(0, b, 1);
            row[k++] = x.beat(0, b, 2);
        }
        return row;
    }

    private static void dueSame(String name, int[] before, int[] behind) {
        for (int k = 0; k < before.length; k++) {
            Due.due("behind " + name + ", " + k, before[k], behind[k]);
        }
    }

    private static void changesNothing(Call call, boolean hasDue) {
        ClockChoir x = middle();
        int[] before = state(x);
        long answer = call.call().applyAsLong(x);
        if (hasDue) {
            Due.due(call.name(), call.due(), answer);
        }
        dueSame(call.name(), before, state(x));
        Due.due("the bytes of the tape behind " + call.name(), -1, x.check(8));
        Due.due("undo() behind " + call.name(), true, x.undo());
        Due.due("KEPT behind " + call.name(), 2, x.count(0));
    }

    private static long bit(boolean answer) {
        return answer ? 1 : 0;
    }

    private void listTold() {
        for (int w : beyond(0, 7)) {
            no("singer(" + w + ")", 0, x -> bit(x.singer(w, 1, 1, 1, 1)));
        }
        for (int w : beyond(-20, 20)) {
            no("singer of DRIFT " + w, 0, x -> bit(x.singer(1, w, 1, 1, 1)));
        }
        for (int w : beyond(0, 15)) {
            no("singer of SEAT " + w, 0, x -> bit(x.singer(0, 1, w, 1, 1)));
            no("ears(" + w + ")", 0, x -> bit(x.ears(w)));
        }
        for (int w : beyond(0, 3)) {
            no("singer of DEAF " + w, 0, x -> bit(x.singer(2, 1, 1, w, 1)));
        }
        for (int w : beyond(1, 20)) {
            no("singer of LUNGS " + w, 0, x -> bit(x.singer(7, 1, 1, 1, w)));
        }
        for (int w : beyond(60, 600)) {
            no("tempo(" + w + ")", 0, x -> bit(x.tempo(w)));
        }
        for (int w : beyond(0, 65535)) {
            no("seed(" + w + ")", 0, x -> bit(x.seed(w)));
        }
    }

    private void listTexts() {
        // There are 20 bytes on the tape: 21 are more than it has, though a text may be that long.
        for (int w : new int[] {0, -1, 21, 240, 241, 260, 261, Integer.MIN_VALUE, Integer.MAX_VALUE}) {
            no("law(" + w + ")", x -> x.law(w));
        }
        for (int w : new int[] {0, -1, 21, 60, 61, Integer.MIN_VALUE, Integer.MAX_VALUE}) {
            no("roll(0, " + w + ")", x -> x.roll(0, w));
            no("roll(6, " + w + ")", x -> x.roll(6, w));
        }
        for (int w : beyond(0, 7)) {
            no("roll(" + w + ", 1)", x -> x.roll(w, 1));
        }
        for (int w : beyond(0, 8)) {
            no("check(" + w + ")", -2, x -> x.check(w));
        }
    }

    private void listTicks() {
        for (int w : beyond(1, 240)) {
            no("ticks(" + w + ")", x -> x.ticks(w));
            no("tried(" + w + ", 0)", x -> x.tried(w, 0));
            no("end(" + w + ", 0)", x -> x.end(w, 0));
            no("spread(" + w + ")", x -> x.spread(w));
            no("firstCome(" + w + ", 1)", x -> x.firstCome(w, 1));
            no("together(0, 1, " + w + ")", x -> x.together(0, 1, w));
        }
        for (int w : new int[] {-1, 4, 9, 13, 16, 18, 19, 23, 28, 29, 33, 38, 39, 40}) {
            no("tried(9, " + w + ")", x -> x.tried(9, w));
        }
        for (int w : beyond(0, 1)) {
            no("end(9, " + w + ")", x -> x.end(9, w));
            no("firstCome(9, " + w + ")", x -> x.firstCome(9, w));
        }
    }

    private void listWho() {
        for (int w : new int[] {-1, 3, 6, 8, Integer.MIN_VALUE, Integer.MAX_VALUE}) {
            no("singerIs(" + w + ", 3)", x -> x.singerIs(w, 3));
            no("drift(" + w + ")", -100, x -> x.drift(w));
            no("alone(" + w + ")", x -> x.alone(w));
            no("together(" + w + ", 0, 9)", x -> x.together(w, 0, 9));
            no("together(0, " + w + ", 9)", x -> x.together(0, w, 9));
            no("clock(" + w + ", 9)", x -> x.clock(w, 9));
            no("meet(" + w + ", 0)", x -> x.meet(w, 0));
            no("meet(0, " + w + ")", x -> x.meet(0, w));
            no("leads(" + w + ")", x -> x.leads(w));
            no("groups(" + w + ")", x -> x.groups(w));
        }
        no("together(1, 1, 9)", x -> x.together(1, 1, 9));
        no("meet(1, 1)", x -> x.meet(1, 1));
        for (int w : beyond(0, 9)) {
            no("singerIs(0, " + w + ")", x -> x.singerIs(0, w));
        }
    }

    private void listMelodies() {
        for (int w : beyond(0, 7)) {
            no("beat(" + w + ", 0, 0)", x -> x.beat(w, 0, 0));
            no("canon(" + w + ", 0, 100)", x -> x.canon(w, 0, 100));
            no("canon(0, " + w + ", 100)", x -> x.canon(0, w, 100));
            no("returns(" + w + ", 0, 0)", -1000, x -> x.returns(w, 0, 0));
            no("returns(0, " + w + ", 0)", -1000, x -> x.returns(0, w, 0));
            no("backwards(" + w + ", 0)", x -> x.backwards(w, 0));
            no("backwards(0, " + w + ")", x -> x.backwards(0, w));
            no("range(" + w + ")", x -> x.range(w));
            no("key(" + w + ", 0)", x -> x.key(w, 0));
            no("tune(" + w + ", 0)", x -> x.tune(w, 0));
            no("breaths(" + w + ", 5, 100)", x -> x.breaths(w, 5, 100));
        }
        for (int w : beyond(0, 7)) {
            no("beat(0, " + w + ", 0)", x -> x.beat(0, w == 8 ? 9 : w, 0));
        }
        for (int w : beyond(0, 3)) {
            no("beat(0, 0, " + w + ")", x -> x.beat(0, 0, w));
            no("returns(0, 1, " + w + ")", -1000, x -> x.returns(0, 1, w));
        }
        for (int w : beyond(0, 1)) {
            no("sounds(" + w + ")", x -> x.sounds(w));
            no("key(0, " + w + ")", x -> x.key(0, w));
            no("order(" + w + ")", x -> x.order(w));
        }
        for (int w : beyond(0, 59)) {
            no("canon(0, 1, " + w + ")", x -> x.canon(0, 1, w));
            no("attacks(" + w + ")", x -> x.attacks(w));
            no("breaths(0, 5, " + w + ")", x -> x.breaths(0, 5, w));
        }
        for (int w : beyond(1, 20)) {
            no("breaths(0, " + w + ", 100)", x -> x.breaths(0, w, 100));
        }
        no("tune(0, -1)", x -> x.tune(0, -1));
    }

    private void listClocks() {
        for (int w : beyond(0, 100000)) {
            no("clock(0, " + w + ")", x -> x.clock(0, w));
            no("agree(" + w + ", 0, 0)", x -> x.agree(w, 0, 0));
        }
        for (int w : beyond(0, 9999)) {
            no("agree(0, " + w + ", 0)", x -> x.agree(0, w, 0));
        }
        for (int w : beyond(0, 1)) {
            no("agree(0, 0, " + w + ")", x -> x.agree(0, 0, w));
        }
        for (int w : new int[] {-1, 9, 18, 19, 28, Integer.MIN_VALUE, Integer.MAX_VALUE}) {
            no("count(" + w + ")", x -> x.count(w));
        }
    }

    private void listAsking() {
        for (int n : new int[] {1, 2, 3, 50, 240}) {
            for (int w : new int[] {0, 1, 2, 3, 10, 21, 32, 15}) {
                ask("tried(" + n + ", " + w + ")", x -> x.tried(n, w));
            }
            ask("end(" + n + ", 0)", x -> x.end(n, 0));
            ask("end(" + n + ", 1)", x -> x.end(n, 1));
            ask("spread(" + n + ")", x -> x.spread(n));
            ask("firstCome(" + n + ", 0)", x -> x.firstCome(n, 0));
            ask("firstCome(" + n + ", 1)", x -> x.firstCome(n, 1));
            ask("together(0, 2, " + n + ")", x -> x.together(0, 2, n));
        }
        for (int what : new int[] {0, 1, 2, 3, 100, 101}) {
            ask("sounds(" + what + ")", x -> x.sounds(what));
            ask("canon(0, 6, " + what + ")", x -> x.canon(0, 6, what));
            ask("returns(0, 2, " + what + ")", x -> x.returns(0, 2, what));
            ask("key(2, " + what + ")", x -> x.key(2, what));
            ask("breaths(0, 2, " + what + ")", x -> x.breaths(0, 2, what));
            ask("breaths(0, 1, " + what + ")", x -> x.breaths(0, 1, what));
            ask("order(" + what + ")", x -> x.order(what));
            ask("groups(" + what + ")", x -> x.groups(what));
            ask("agree(999, 9, " + what + ")", x -> x.agree(999, 9, what));
            ask("leads(" + what + ")", x -> x.leads(what));
            ask("attacks(" + what + ")", x -> x.attacks(what));
            ask("tune(2, " + what + ")", x -> x.tune(2, what));
        }
        for (int i = 0; i < 8; i++) {
            int who = i;
            ask("backwards(" + i + ", 2)", x -> x.backwards(who, 2));
            ask("range(" + i + ")", x -> x.range(who));
            ask("alone(" + i + ")", x -> x.alone(who));
            ask("clock(" + i + ", 99999)", x -> x.clock(who, 99999));
            ask("meet(" + i + ", 0)", x -> x.meet(who, 0));
        }
    }

    private static void fullTapeIsRefused() {
        Due.by("how many it has; NONE if that would be more than 260.");
        ClockChoir x = middle();
        while (x.count(7) < FULL) {
            x.feed(-1, -1, -1, -1, -1);
        }
        int[] before = state(x);
        Due.due("feed", -1, x.feed(1, 2, 3, 4, 5));
        dueSame("feed on a full tape", before, state(x));
        Due.due("the first bytes", -1, x.check(8));
    }

    private static void undoIsRefused() {
        Due.by("UNDONE: true; false: none was KEPT.");
        ClockChoir x = new ClockChoir();
        x.singer(0, 7, 3, 1, 9);
        Due.roll(x, 0, "abc");
        x.ticks(3);
        int[] before = state(x);
        Due.due("undo()", false, x.undo());
        dueSame("undo()", before, state(x));
    }

    private static void memoryIsTheChoirsOwn() {
        Due.by("All memory is the choir's own.");
        ClockChoir x = middle();
        int[] before = state(x);
        ClockChoir other = new ClockChoir();
        Due.due("another one is new", 0, other.count(1) + other.count(6) + other.count(7) + other.count(10));
        other.singer(0, 1, 1, 1, 1);
        other.ears(1);
        other.tempo(61);
        other.seed(1);
        Due.roll(other, 0, "gg");
        Due.law(other, "x(1=1)");
        Due.feed(other, "zzz");
        other.ticks(9);
        other.keep();
        other.anew();
        dueSame("calls on another one", before, state(x));
        Due.due("the bytes of the tape", -1, x.check(8));
        Due.due("undo()", true, x.undo());
        Due.due("KEPT", 2, x.count(0));
    }

    private static void theLastCall() {
        Due.by("An object is used for at most 512 calls after it has been made");
        ClockChoir x = new ClockChoir();
        // Thirteen feeds fill the tape, the call behind them empties it.
        for (int call = 1; call <= 511; call++) {
            if (call % 14 == 0) {
                Due.due("check", -1, x.check(8));
            } else {
                Due.due("feed", 20 * (call % 14), x.feed(0, 0, 0, 0, 0));
            }
        }
        Due.due("the 512th call", 20 * (511 % 14), x.count(7));
    }

    private static void aFaultEmptiesTheTapeAlone() {
        Due.by("a FAULT: -1000 times its number, less its place (the one before stays)");
        String[] texts = {"h", "u", "(", "((((", "x(1=1)h", "u123456", "ab#", "(ab)x", "a9b9c9d9e9f9g9", "v8(1=1);b"};
        for (String text : texts) {
            for (int turn = 0; turn < 3; turn++) {
                boolean law = turn == 0;
                int i = turn == 1 ? 0 : 6;
                ClockChoir x = middle();
                x.check(0);
                int[] before = state(x);
                Due.due("the tape is empty", 0, x.count(7));
                Due.feed(x, text);
                int answer = law ? x.law(text.length()) : x.roll(i, text.length());
                Due.due("a FAULT of " + text, true, answer <= -1000);
                dueSame("a FAULT of " + text, before, state(x));
            }
        }
    }
}
