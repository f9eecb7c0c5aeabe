/** Promises 17 to 21 and 24 to 27: what sounds, canons, melodies, where to breathe. */
public final class MelodyTest {
    public static void main(String[] args) {
        sounds();
        canon();
        returns();
        backwards();
        rangeAndKey();
        attacks();
        tune();
        breaths();
        everyWayToBreathe();
        Due.finish("MelodyTest");
    }

    private static void sounds() {
        ClockChoir x = new ClockChoir();
        Due.due("sounds(-1)", -1, x.sounds(-1));
        Due.due("sounds(2)", -1, x.sounds(2));
        String[] rolls = {"aa", "ba", "ga", ".b", "a^c", "c"};
        for (int i = 0; i < rolls.length; i++) {
            Due.roll(x, i, rolls[i]);
        }
        Due.due("nobody is told", 0, x.sounds(0));
        for (int i = 0; i < 5; i++) {
            x.singer(i, 0, 0, 0, 1);
        }
        // a b g . a: a-b, a-g, b-a, g-a
        Due.due("NOTES", 1 << 1 | 1 << 2 | 1 << 7, x.sounds(0));
        Due.due("CLASHES", 4, x.sounds(1));
        x.tempo(60);
        x.ticks(1);
        // a a a b, 4 WAITS: three clash with b.
        Due.due("NOTES", 1 << 1 | 1 << 2, x.sounds(0));
        Due.due("CLASHES", 3, x.sounds(1));
        x.singer(6, 0, 0, 0, 1);
        x.ticks(1);
        Due.due("DONE ones and one without a ROLL are silent: c", 1 << 3, x.sounds(0));
        Due.due("none CLASH", 0, x.sounds(1));
        Due.roll(x, 0, "d");
        Due.due("0 is heard as the others are: d and c", 1 << 3 | 1 << 4, x.sounds(0));
        Due.due("and CLASHES", 1, x.sounds(1));
    }

    private static void canon() {
        ClockChoir x = new ClockChoir();
        Due.roll(x, 0, "abcg.a");
        Due.roll(x, 1, "ab");
        // by 0: a-a, b-b; by 1: b-a, c-b; by 2: c-a, g-b; by 3: g-a, .-b; by 4: .-a, a-b; by 5: a-a
        int[] due = {0, 2, 0, 1, 1, 0, 0};
        for (int delay = 0; delay < due.length; delay++) {
            Due.due("canon(0, 1, " + delay + ")", due[delay], x.canon(0, 1, delay));
        }
        Due.due("canon(0, 1, 100)", 0, x.canon(0, 1, 100));
        Due.due("canon(0, 1, 101)", 0, x.canon(0, 1, 101));
        Due.due("canon(0, 1, 59)", 0, x.canon(0, 1, 59));
        for (int what : new int[] {-1, 60, 99, 102}) {
            Due.due("canon(0, 1, " + what + ")", -1, x.canon(0, 1, what));
        }
        Due.due("canon(-1, 1, 0)", -1, x.canon(-1, 1, 0));
        Due.due("canon(0, 8, 0)", -1, x.canon(0, 8, 0));
        Due.due("no ROLL", 0, x.canon(0, 7, 100));
        Due.roll(x, 4, "ac");
        Due.due("by 0 c-b CLASHES", 1, x.canon(4, 1, 0));
        Due.due("by 1 c-a do not", 1, x.canon(4, 1, 100));
        Due.due("none then", 0, x.canon(4, 1, 101));
        StringBuilder low = new StringBuilder();
        StringBuilder high = new StringBuilder();
        for (int k = 0; k < 6; k++) {
            low.append("a9a");
            high.append("b9b");
        }
        Due.due("60 BEATS", 60, Due.roll(x, 2, low.toString()));
        Due.due("60 BEATS", 60, Due.roll(x, 3, high.toString()));
        Due.due("all CLASH", 60, x.canon(2, 3, 0));
        Due.due("the best delay", 59, x.canon(2, 3, 100));
        Due.due("one is left", 1, x.canon(2, 3, 101));
        Due.due("the same ROLL", 2, x.canon(0, 0, 1));
        Due.due("the other way round", 1, x.canon(1, 0, 1));
    }

    private static void returns() {
        ClockChoir x = new ClockChoir();
        for (int what : new int[] {-1, 4}) {
            Due.due("returns(0, 1, " + what + ")", -1000, x.returns(0, 1, what));
        }
        Due.due("returns(-1, 1, 0)", -1000, x.returns(-1, 1, 0));
        Due.due("returns(0, 8, 3)", -1000, x.returns(0, 8, 3));
        Due.due("no ROLLS", 0, x.returns(0, 1, 0));
        Due.roll(x, 0, "g");
        Due.roll(x, 1, "...");
        Due.due("one has no sound", 0, x.returns(0, 1, 0));
        for (int what = 1; what <= 3; what++) {
            Due.due("one has no sound", -2000, x.returns(0, 1, what));
            Due.due("one has no sound", -2000, x.returns(1, 0, what));
        }
        Due.roll(x, 1, "..a.");
        dueReturns(x, 0, 1, 1, 0, 0, -6);
        dueReturns(x, 1, 0, 1, 0, 0, 6);
        // e d c | a b c d: no row of steps in common but for one sound
        Due.roll(x, 2, "edc");
        Due.roll(x, 3, "abcd");
        dueReturns(x, 2, 3, 1, 0, 0, -4);
        // steps of 4: 1 1 -2 1 1; of 5: 0 1 1 1 -3 1 1
        Due.roll(x, 4, "abcabc");
        Due.roll(x, 5, "ccdefcde");
        dueReturns(x, 4, 5, 3, 0, 1, 2);
        dueReturns(x, 5, 4, 3, 1, 0, -2);
        dueReturns(x, 4, 4, 6, 0, 0, 0);
        // lengths and rests do not matter
        Due.roll(x, 6, "a.9b5.c^,a2b9c");
        dueReturns(x, 4, 6, 6, 0, 0, 0);
        // the longest is last in both
        Due.roll(x, 6, "agabd");
        Due.roll(x, 7, "ccccef.d.efa");
        // steps of 6: 6 -6 1 2; of 7: 0 0 0 2 1 -2 1 1 -5
        dueReturns(x, 6, 7, 2, 2, 4, 4);
        Due.roll(x, 7, "cccbcea");
        dueReturns(x, 6, 7, 3, 2, 3, 1);
    }

    private static void dueReturns(ClockChoir x, int i, int j, int many, int first, int second, int higher) {
        String call = "returns(" + i + ", " + j + ", ";
        Due.due(call + "0)", many, x.returns(i, j, 0));
        Due.due(call + "1)", first, x.returns(i, j, 1));
        Due.due(call + "2)", second, x.returns(i, j, 2));
        Due.due(call + "3)", higher, x.returns(i, j, 3));
    }

    private static void backwards() {
        ClockChoir x = new ClockChoir();
        Due.due("none of both has a sound", 1, x.backwards(0, 1));
        Due.roll(x, 0, "ab2.c");
        Due.due("one has none", 0, x.backwards(0, 1));
        Due.due("one has none", 0, x.backwards(1, 0));
        Due.roll(x, 1, ".c^b,a3");
        Due.due("backwards", 1, x.backwards(0, 1));
        Due.due("backwards", 1, x.backwards(1, 0));
        Due.due("itself", 0, x.backwards(0, 0));
        Due.roll(x, 2, "cbaa");
        Due.due("one more", 0, x.backwards(0, 2));
        Due.roll(x, 3, "aba");
        Due.due("itself", 1, x.backwards(3, 3));
        Due.roll(x, 4, "abc");
        Due.due("the first one alone is not so", 0, x.backwards(3, 4));
        Due.due("the last one alone is not so", 0, x.backwards(4, 3));
        Due.due("backwards(-1, 0)", -1, x.backwards(-1, 0));
        Due.due("backwards(0, 8)", -1, x.backwards(0, 8));
    }

    private static void rangeAndKey() {
        ClockChoir x = new ClockChoir();
        Due.due("range(-1)", -1, x.range(-1));
        Due.due("range(8)", -1, x.range(8));
        Due.due("key(-1, 0)", -1, x.key(-1, 0));
        Due.due("key(8, 1)", -1, x.key(8, 1));
        Due.due("key(0, -1)", -1, x.key(0, -1));
        Due.due("key(0, 2)", -1, x.key(0, 2));
        Due.roll(x, 0, "...");
        Due.due("range of rests", -2, x.range(0));
        Due.due("key of rests", -2, x.key(0, 0));
        Due.due("key of rests", 0, x.key(0, 1));
        Due.roll(x, 0, ".d.");
        Due.due("range of one sound", 0, x.range(0));
        Due.roll(x, 0, "bg2b.9agb");
        Due.due("range", 6, x.range(0));
        Due.due("key: of like ones the lowest", 2, x.key(0, 0));
        Due.due("on how many BEATS", 3, x.key(0, 1));
        Due.roll(x, 0, "ab.b");
        Due.due("the lowest is first", 1, x.range(0));
        Due.roll(x, 0, "baa");
        Due.due("key a", 1, x.key(0, 0));
        Due.roll(x, 0, "g3abab");
        Due.due("key by BEATS", 7, x.key(0, 0));
        Due.due("on how many BEATS", 3, x.key(0, 1));
    }

    private static void attacks() {
        ClockChoir x = new ClockChoir();
        Due.due("attacks(-1)", -1, x.attacks(-1));
        Due.due("attacks(60)", -1, x.attacks(60));
        Due.roll(x, 0, "a2.b");
        Due.roll(x, 1, ".abb");
        Due.roll(x, 2, "aaaa");
        Due.due("nobody is told", 0, x.attacks(0));
        x.singer(0, 0, 0, 0, 1);
        x.singer(1, 0, 0, 0, 1);
        int[] due = {1, 1, 1, 2, 0};
        for (int k = 0; k < due.length; k++) {
            Due.due("attacks(" + k + ")", due[k], x.attacks(k));
        }
        Due.due("attacks(59)", 0, x.attacks(59));
    }

    private static void tune() {
        ClockChoir x = new ClockChoir();
        Due.due("no ROLL", -2, x.tune(0, 0));
        Due.roll(x, 0, ".a3.ag,");
        int[] due = {1, 1, 7, -2, -2};
        for (int k = 0; k < due.length; k++) {
            Due.due("tune(0, " + k + ")", due[k], x.tune(0, k));
        }
        Due.roll(x, 1, "fa");
        Due.due("a sound on the first BEAT", 6, x.tune(1, 0));
        Due.due("a sound on the last BEAT", 1, x.tune(1, 1));
        Due.due("tune(0, a lot)", -2, x.tune(0, Integer.MAX_VALUE));
        Due.due("tune(0, -1)", -1, x.tune(0, -1));
        Due.due("tune(-1, 0)", -1, x.tune(-1, 0));
        Due.due("tune(8, 0)", -1, x.tune(8, 0));
    }

    private static void breaths() {
        ClockChoir x = new ClockChoir();
        int[][] wrong = {{-1, 5, 0}, {8, 5, 0}, {0, 0, 0}, {0, 21, 0}, {0, 5, -1}, {0, 5, 60}, {0, 5, 99}, {0, 5, 101}};
        for (int[] w : wrong) {
            Due.due("breaths of no such ones", -1, x.breaths(w[0], w[1], w[2]));
        }
        Due.due("no ROLL", 0, x.breaths(0, 1, 100));
        Due.due("no ROLL", -4, x.breaths(0, 1, 0));
        Due.roll(x, 0, ".9.");
        Due.due("rests alone", 0, x.breaths(0, 1, 100));
        Due.roll(x, 0, ".a.b3.c");
        Due.due("a sound is too long", -2, x.breaths(0, 2, 100));
        Due.due("a sound is too long", -2, x.breaths(0, 2, 0));
        dueBreaths(x, 3, 2, 6);
        dueBreaths(x, 4, 2);
        dueBreaths(x, 5);
        // 20 sounds of 1 and k 7: two BREATHS, the first behind 6 at least
        Due.roll(x, 0, "(ab)x9ab");
        dueBreaths(x, 7, 6, 13);
        dueBreaths(x, 19, 1);
        dueBreaths(x, 20);
        dueBreaths(x, 1, 1, 2, 3, 4, 5, 6, 7, 8, 9, 10, 11, 12, 13, 14, 15, 16, 17, 18, 19);
        Due.due("the last place that can be asked", -4, x.breaths(0, 1, 59));
        Due.due("60 sounds", 60, Due.roll(x, 0, "(abcdef)x9abcdef"));
        Due.due("59 BREATHS", 59, x.breaths(0, 1, 100));
        Due.due("the last of them", 59, x.breaths(0, 1, 58));
        Due.due("none behind it", -4, x.breaths(0, 1, 59));
        dueBreaths(x, 20, 20, 40);
        Due.roll(x, 0, "a5");
        Due.due("one sound, too long", -2, x.breaths(0, 4, 100));
        dueBreaths(x, 5);
        Due.roll(x, 0, "ab5");
        Due.due("the last sound is too long", -2, x.breaths(0, 4, 100));
        Due.due("another ROLL, without a sound", 0, x.breaths(1, 4, 100));
        Due.roll(x, 0, "a^b,c3");
        dueBreaths(x, 3, 2);
        dueBreaths(x, 4, 1);
    }

    private static void dueBreaths(ClockChoir x, int k, int... places) {
        Due.due("breaths(0, " + k + ", 100)", places.length, x.breaths(0, k, 100));
        for (int p = 0; p < places.length; p++) {
            Due.due("breaths(0, " + k + ", " + p + ")", places[p], x.breaths(0, k, p));
        }
        Due.due("breaths(0, " + k + ", no such place)", -4, x.breaths(0, k, places.length));
    }

    /** Each choice of places in some short ROLLS, tried one by one. */
    private static void everyWayToBreathe() {
        String[] rolls = {"ab2c3.d2ef2", "a3b3c3a3b", "..a2.b.c4d", "(ab2)x4c", "a5b", "ab5ab", "abcdefgabc"};
        for (String roll : rolls) {
            ClockChoir x = new ClockChoir();
            int length = Due.roll(x, 0, roll);
            boolean[] notes = new boolean[length];
            boolean[] last = new boolean[length];
            for (int b = 0; b < length; b++) {
                notes[b] = x.beat(0, b, 0) != 0;
                last[b] = notes[b] && x.beat(0, b + 1, 3) != 0;
            }
            for (int k = 1; k <= 20; k++) {
                int best = -1;
                for (int some = 0; some < 1 << length; some++) {
                    if (isWay(notes, last, k, some) && (best < 0 || isBetter(some, best))) {
                        best = some;
                    }
                }
                Due.due(roll + " breaths by " + k, best < 0 ? -2 : Integer.bitCount(best), x.breaths(0, k, 100));
                int p = 0;
                for (int b = 0; b < length && best >= 0; b++) {
                    if ((best >> b & 1) != 0) {
                        Due.due(roll + " by " + k + " place " + p, b + 1, x.breaths(0, k, p));
                        p++;
                    }
                }
            }
        }
    }

    private static boolean isWay(boolean[] notes, boolean[] last, int k, int some) {
        int sung = 0;
        for (int b = 0; b < notes.length; b++) {
            sung += notes[b] ? 1 : 0;
            if (sung > k) {
                return false;
            }
            if ((some >> b & 1) != 0) {
                if (!last[b]) {
                    return false;
                }
                sung = 0;
            }
        }
        return true;
    }

    /** Fewer, or as many and the lower place first where they part. */
    private static boolean isBetter(int some, int best) {
        int fewer = Integer.bitCount(some) - Integer.bitCount(best);
        if (fewer != 0) {
            return fewer < 0;
        }
        int part = Integer.lowestOneBit(some ^ best);
        return (some & part) != 0;
    }
}
