/** Promises 34 to 38: the seed, kept and undone, check, count. */
public final class KeepingTest {
    public static void main(String[] args) {
        seed();
        keepAndUndo();
        undoneIntoNewerRolls();
        check();
        count();
        Due.finish("KeepingTest");
    }

    private static void seed() {
        ClockChoir x = new ClockChoir();
        Due.due("seed(-1)", false, x.seed(-1));
        Due.due("seed(65536)", false, x.seed(65536));
        Due.due("X", 1, x.count(8));
        Due.due("seed(0)", true, x.seed(0));
        Due.due("X", 0, x.count(8));
        x.singer(0, 0, 0, 0, 1);
        Due.roll(x, 0, "ab");
        Due.law(x, "c10(1=1)");
        x.ticks(2);
        int second = (int) ((25173L * 13849 + 13849) % 65536);
        Due.due("X behind two DRAWS", second, x.count(8));
        x.anew();
        Due.due("anew leaves X", second, x.count(8));
        Due.due("seed(65535)", true, x.seed(65535));
        Due.due("X", 65535, x.count(8));
    }

    private static void keepAndUndo() {
        ClockChoir x = new ClockChoir();
        Due.due("none was KEPT", false, x.undo());
        x.singer(0, 5, 3, 1, 7);
        x.singer(1, -5, 4, 2, 3);
        Due.roll(x, 0, "a^bcd");
        Due.roll(x, 1, "abc^d");
        Due.law(x, "b5(s=1)");
        x.tempo(70);
        x.ticks(4);
        int[] before = state(x);
        Due.due("both WAIT", 3, x.count(3));
        Due.due("1 has MISSED some", 2, x.singerIs(1, 6));
        Due.due("keep()", 4, x.keep());
        x.ticks(9);
        x.singer(0, 1, 2, 3, 4);
        x.singer(2, 0, 0, 0, 1);
        x.seed(77);
        x.ears(3);
        x.tempo(99);
        Due.law(x, "x(1=1);x(1=2)");
        Due.roll(x, 3, "abcdefg");
        Due.feed(x, "a");
        Due.due("undo()", true, x.undo());
        int[] behind = state(x);
        for (int k = 0; k < before.length; k++) {
            Due.due("UNDONE, " + k, before[k], behind[k]);
        }
        Due.due("EARS are not KEPT", 3, x.count(4));
        Due.due("TEMPO is not KEPT", 99, x.count(5));
        Due.due("THE LAW is not KEPT", 2, x.count(6));
        Due.due("the tape is not KEPT", 20, x.count(7));
        Due.due("ROLLS are not KEPT", 7, x.count(13));
        x.ticks(3);
        Due.due("undo() again", true, x.undo());
        Due.due("UNDONE again", 4, x.count(0));
        x.ticks(1);
        Due.due("keep() anew", 5, x.keep());
        x.ticks(1);
        Due.due("undo()", true, x.undo());
        Due.due("as KEPT last", 5, x.count(0));
    }

    private static int[] state(ClockChoir x) {
        int[] row = new int[8 * 10 + 3];
        int k = 0;
        for (int i = 0; i < 8; i++) {
            for (int what = 0; what < 9; what++) {
                row[k++] = x.singerIs(i, what);
            }
            row[k++] = x.drift(i);
        }
        row[k++] = x.count(0);
        row[k++] = x.count(1);
        row[k] = x.count(8);
        return row;
    }

    private static void undoneIntoNewerRolls() {
        ClockChoir x = new ClockChoir();
        for (int i = 0; i < 4; i++) {
            x.singer(i, 0, 0, 0, 5);
            Due.roll(x, i, i == 3 ? "........a^." : "abc^d");
        }
        x.tempo(60);
        x.ticks(3);
        Due.due("they WAIT", 7, x.count(3));
        x.keep();
        Due.roll(x, 0, "ab");
        Due.roll(x, 1, "abc");
        Due.roll(x, 2, "abcde");
        Due.due("undo()", true, x.undo());
        Due.due("AT beyond the end: the end", 2, x.singerIs(0, 3));
        Due.due("AT at the end", 3, x.singerIs(1, 3));
        Due.due("AT ahead of the end", 3, x.singerIs(2, 3));
        Due.due("who is DONE is not WAITING", 4, x.count(3));
        Due.due("DONE", 3, x.count(2));
        Due.due("2 has come to none now, so he waits for nobody", 1, x.ticks(1));
        Due.due("none WAITS", 0, x.count(3));
        Due.due("2 sings on", 2, x.ticks(1));
        Due.roll(x, 0, "abcdefg");
        Due.due("undo() into longer ones", true, x.undo());
        Due.due("AT as it was KEPT", 3, x.singerIs(0, 3));
        Due.due("WAITING as it was KEPT", 5, x.count(3));
    }

    private static void check() {
        ClockChoir x = new ClockChoir();
        for (int i = 0; i < 8; i += 2) {
            x.singer(i, 0, 0, 0, 5);
        }
        Due.roll(x, 0, "abc");
        Due.roll(x, 1, "abc");
        Due.roll(x, 4, "ab");
        x.tempo(60);
        x.ticks(3);
        Due.feed(x, new byte[] {3, 0, 0, 0, 2, 0, 0, 0, 9});
        Due.due("all are right", -1, x.check(8));
        Due.due("the tape is empty", 0, x.count(7));
        Due.feed(x, new byte[] {3, 0, 0, 0, 3, 0, 0, 1});
        Due.due("4 is not", 4, x.check(8));
        Due.feed(x, new byte[] {3, 0, 0, 0, 3, 0, 0, 1});
        Due.due("4 is not asked", -1, x.check(4));
        Due.due("the tape is empty", 0, x.count(7));
        Due.feed(x, new byte[] {3, 3});
        Due.due("1 is not told: 0", 1, x.check(2));
        Due.feed(x, new byte[] {(byte) 255});
        Due.due("255", 0, x.check(1));
        Due.feed(x, new byte[] {3});
        Due.due("check(0)", -1, x.check(0));
        Due.due("the tape is empty", 0, x.count(7));
        Due.due("check(0) of an empty tape", -1, x.check(0));
        Due.due("check(1) of an empty tape", -2, x.check(1));
        Due.feed(x, new byte[] {3});
        Due.due("check(9)", -2, x.check(9));
        Due.due("check(-1)", -2, x.check(-1));
        Due.due("the tape stays", 20, x.count(7));
    }

    private static void count() {
        ClockChoir x = new ClockChoir();
        for (int what : new int[] {-1, 9, 18, 19, 28, 100, Integer.MIN_VALUE, Integer.MAX_VALUE}) {
            Due.due("count(" + what + ")", -1, x.count(what));
        }
        x.singer(0, 0, 0, 0, 1);
        x.singer(7, 0, 0, 0, 1);
        Due.roll(x, 7, "a^b^.^");
        Due.due("DONE without a ROLL", 1, x.count(2));
        Due.due("told", 129, x.count(1));
        Due.due("BEATS", 3, x.count(17));
        Due.due("FERMATAS", 3, x.count(27));
        Due.due("no BEATS", 0, x.count(10));
        Due.due("no FERMATAS", 0, x.count(20));
        x.tempo(60);
        x.ticks(1);
        Due.due("WAITING", 128, x.count(3));
        Due.due("THE TICK", 1, x.count(0));
    }
}
