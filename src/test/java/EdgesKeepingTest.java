/** Edges of promises 34 to 38, a method for each sentence. */
public final class EdgesKeepingTest {
    public static void main(String[] args) {
        boundsOfSeed();
        keepTellsTheTick();
        noneWasKept();
        asTheyWereKeptLast();
        whatIsNotKept();
        singersToldLater();
        atBeyondANewerRollsEnd();
        whoIsDoneThenIsNotWaiting();
        longerRolls();
        drawsComeAgain();
        allOfASingerIsKept();
        boundsOfCheck();
        checkOfAShortTape();
        theFirstThatIsNotSo();
        notToldIsNought();
        bytesOfCheck();
        boundsOfCount();
        countOfRolls();
        fullCounts();
        Due.finish("EdgesKeepingTest");
    }

    private static ClockChoir one(String roll) {
        ClockChoir x = new ClockChoir();
        x.singer(0, 0, 0, 0, 5);
        Due.roll(x, 0, roll);
        x.tempo(60);
        return x;
    }

    private static void boundsOfSeed() {
        Due.by("THE SEED (0 to 65535; X, too): true; false: no such number.");
        ClockChoir x = new ClockChoir();
        int now = 1;
        for (int seed : Edges.around(0, 65535)) {
            boolean due = Edges.within(seed, 0, 65535);
            Due.due("seed(" + seed + ")", due, x.seed(seed));
            now = due ? seed : now;
            Due.due("X", now, x.count(8));
        }
    }

    private static void keepTellsTheTick() {
        Due.by("KEPT: THE TICK.");
        ClockChoir x = new ClockChoir();
        Due.due("at first", 0, x.keep());
        x.ticks(1);
        Due.due("behind one", 1, x.keep());
        x.ticks(240);
        Due.due("behind 241", 241, x.keep());
        Due.due("once more", 241, x.keep());
    }

    private static void noneWasKept() {
        Due.by("UNDONE: true; false: none was KEPT.");
        ClockChoir x = one("abc");
        x.ticks(2);
        Due.due("undo()", false, x.undo());
        Due.due("AT", 2, x.singerIs(0, 3));
        Due.due("THE TICK", 2, x.count(0));
        x.keep();
        for (int k = 0; k < 3; k++) {
            x.ticks(1);
            Due.due("as often as one likes", true, x.undo());
            Due.due("AT", 2, x.singerIs(0, 3));
            Due.due("THE TICK", 2, x.count(0));
        }
    }

    private static void asTheyWereKeptLast() {
        Due.by("UNDONE: as they were KEPT last");
        ClockChoir x = one("abcdefg");
        x.keep();
        x.ticks(1);
        x.keep();
        x.ticks(2);
        x.keep();
        x.ticks(2);
        x.undo();
        Due.due("AT", 3, x.singerIs(0, 3));
        x.undo();
        Due.due("not the one before", 3, x.singerIs(0, 3));
        x.anew();
        x.undo();
        Due.due("anew is UNDONE", 3, x.singerIs(0, 3));
        x.ticks(1);
        Due.due("keep() behind undo()", 4, x.keep());
        x.undo();
        Due.due("AT", 4, x.singerIs(0, 3));
    }

    private static void whatIsNotKept() {
        Due.by("KEPT: SINGERS, AT, PHASE, BREATH, MISSED, WAITING, THE TICK, X");
        ClockChoir x = one("abc");
        x.singer(1, 3, 4, 2, 7);
        Due.law(x, "u1(1=1)");
        x.keep();
        x.singer(1, -3, 9, 1, 2);
        x.ears(4);
        x.tempo(333);
        Due.law(x, "u1(1=1);u2(1=1);u3(1=1)");
        Due.roll(x, 1, "ab");
        Due.feed(x, "ab");
        x.undo();
        Due.due("EARS", 4, x.count(4));
        Due.due("TEMPO", 333, x.count(5));
        Due.due("RULES", 3, x.count(6));
        Due.due("the tape", 20, x.count(7));
        Due.due("ROLL", 2, x.count(11));
        Due.due("DRIFT is KEPT", 3, x.drift(1));
        Due.due("SEAT is KEPT", 4, x.singerIs(1, 0));
        Due.due("DEAF is KEPT", 2, x.singerIs(1, 1));
        Due.due("LUNGS are KEPT", 7, x.singerIs(1, 2));
        Due.due("BREATH is KEPT", 7, x.singerIs(1, 5));
    }

    private static void singersToldLater() {
        Due.by("KEPT: SINGERS");
        ClockChoir x = new ClockChoir();
        x.keep();
        for (int i = 0; i < 8; i++) {
            x.singer(i, 0, 0, 0, 1);
        }
        Due.due("told", 255, x.count(1));
        x.undo();
        Due.due("told", 0, x.count(1));
        Due.due("anew of nobody", 0, x.anew());
        x.singer(3, 0, 0, 0, 1);
        x.keep();
        x.singer(4, 0, 0, 0, 1);
        x.undo();
        Due.due("told", 8, x.count(1));
    }

    private static void atBeyondANewerRollsEnd() {
        Due.by("(AT beyond a newer ROLL's end: its end; who is DONE then is not WAITING)");
        for (int beats = 1; beats <= 7; beats++) {
            ClockChoir x = one("abcdefg");
            x.ticks(4);
            x.keep();
            Due.roll(x, 0, "abcdefg".substring(0, beats));
            Due.due("AT", 0, x.singerIs(0, 3));
            x.undo();
            Due.due("AT in a ROLL of " + beats, Math.min(4, beats), x.singerIs(0, 3));
            Due.due("DONE", beats <= 4 ? 1 : 0, x.singerIs(0, 8));
            Due.due("BEATS that are left", Math.max(0, beats - 4), x.ticks(9));
        }
    }

    private static void whoIsDoneThenIsNotWaiting() {
        Due.by("who is DONE then is not WAITING");
        for (int beats = 1; beats <= 4; beats++) {
            ClockChoir x = one("ab^cd");
            x.ticks(2);
            Due.due("WAITING", 1, x.singerIs(0, 7));
            x.keep();
            Due.roll(x, 0, "abcd".substring(0, beats));
            x.undo();
            Due.due("WAITING in a ROLL of " + beats, beats <= 2 ? 0 : 1, x.singerIs(0, 7));
            Due.due("count(3)", beats <= 2 ? 0 : 1, x.count(3));
            Due.due("first come", beats <= 2 ? -2 : 0, x.firstCome(9, 0));
        }
    }

    private static void longerRolls() {
        Due.by("AT beyond a newer ROLL's end: its end");
        ClockChoir x = one("ab");
        x.ticks(2);
        Due.due("DONE", 1, x.singerIs(0, 8));
        x.keep();
        Due.roll(x, 0, "abcd");
        x.undo();
        Due.due("AT", 2, x.singerIs(0, 3));
        Due.due("DONE no more", 0, x.singerIs(0, 8));
        Due.due("BEATS", 2, x.ticks(9));
    }

    private static void drawsComeAgain() {
        Due.by("KEPT: SINGERS, AT, PHASE, BREATH, MISSED, WAITING, THE TICK, X");
        ClockChoir x = one("(abcdefg)x8");
        Due.law(x, "c5(1=1)");
        x.ticks(7);
        int state = x.count(8);
        x.keep();
        int sung = x.ticks(9);
        Due.due("X went on", true, x.count(8) != state);
        x.undo();
        Due.due("X", state, x.count(8));
        Due.due("the same BEATS", sung, x.ticks(9));
        x.undo();
        x.seed(77);
        x.undo();
        Due.due("THE SEED told since then", state, x.count(8));
    }

    private static void allOfASingerIsKept() {
        Due.by("KEPT: SINGERS, AT, PHASE, BREATH, MISSED, WAITING, THE TICK, X");
        ClockChoir x = one("ab^c.defg");
        x.singer(0, 9, 0, 0, 1);
        x.singer(1, -9, 3, 2, 7);
        Due.roll(x, 1, "abcdefg^a");
        Due.law(x, "b1(1=1)");
        x.ticks(3);
        int[] first = {2, 0, 0, 1, 1, 0};
        int[] second = {2, 33, 5, 0, 0, 0};
        x.keep();
        for (int turn = 0; turn < 2; turn++) {
            for (int what = 3; what <= 8; what++) {
                Due.due("singerIs(0, " + what + ")", first[what - 3], x.singerIs(0, what));
                Due.due("singerIs(1, " + what + ")", second[what - 3], x.singerIs(1, what));
            }
            x.ticks(20);
            Due.due("he goes on", 8, x.singerIs(0, 3));
            Due.due("and MISSES more", true, x.singerIs(0, 6) > 1);
            x.anew();
            x.undo();
        }
    }

    private static void boundsOfCheck() {
        Due.by("CHECK by the first n bytes of the tape (0 to 8; empty then");
        for (int n : Edges.around(0, 8)) {
            ClockChoir x = one("abc");
            Due.feed(x, new byte[20]);
            boolean can = Edges.within(n, 0, 8);
            Due.due("check(" + n + ")", can ? -1 : -2, x.check(n));
            Due.due("bytes of the tape then", can ? 0 : 20, x.count(7));
        }
    }

    private static void checkOfAShortTape() {
        Due.by("-2: no such n, it has not so many (the tape stays)");
        ClockChoir x = new ClockChoir();
        Due.due("none of none", -1, x.check(0));
        for (int n = 1; n <= 8; n++) {
            Due.due(n + " of none", -2, x.check(n));
        }
        x.feed(0, 0, 0, 0, 0);
        Due.due("9 of 20", -2, x.check(9));
        Due.due("the tape stays", 20, x.count(7));
        Due.due("none of 20", -1, x.check(0));
        Due.due("empty then", 0, x.count(7));
    }

    private static void theFirstThatIsNotSo() {
        Due.by("CHECK: ATs: right, or the first that is not so.");
        for (int wrong = 0; wrong < 8; wrong++) {
            ClockChoir x = new ClockChoir();
            x.tempo(60);
            byte[] ats = new byte[8];
            for (int i = 0; i < 8; i++) {
                x.singer(i, 0, 0, 0, 1);
                Due.roll(x, i, "abcdefga".substring(0, i + 1));
                ats[i] = (byte) (i + 1);
            }
            x.ticks(8);
            Due.feed(x, ats);
            Due.due("right", -1, x.check(8));
            ats[wrong]++;
            Due.feed(x, ats);
            Due.due("one too many", wrong, x.check(8));
            ats[wrong] -= 2;
            ats[7]--;
            Due.feed(x, ats);
            Due.due("one too few", wrong, x.check(8));
            Due.feed(x, ats);
            Due.due("it is not asked", -1, x.check(wrong));
            Due.feed(x, ats);
            Due.due("it is the last asked", wrong, x.check(wrong + 1));
            Due.due("the tape is empty", 0, x.count(7));
        }
    }

    private static void notToldIsNought() {
        Due.by("of SINGERS that are not told 0");
        ClockChoir x = one("abc");
        Due.roll(x, 1, "abc");
        x.ticks(3);
        Due.feed(x, new byte[] {3, 0, 0, 0, 0, 0, 0, 0});
        Due.due("right", -1, x.check(8));
        Due.feed(x, new byte[] {3, 3, 0, 0, 0, 0, 0, 0});
        Due.due("1 is not told", 1, x.check(8));
        Due.feed(x, new byte[] {3, 0, 0, 0, 0, 0, 0, 1});
        Due.due("7 is not told", 7, x.check(8));
        Due.feed(x, new byte[] {2, 1, 0, 0, 0, 0, 0, 1});
        Due.due("the first", 0, x.check(8));
        ClockChoir z = new ClockChoir();
        z.keep();
        z.singer(2, 0, 0, 0, 1);
        Due.roll(z, 2, "abc");
        z.tempo(60);
        z.ticks(2);
        z.undo();
        Due.feed(z, new byte[8]);
        Due.due("UNDONE: he is not told any more", -1, z.check(8));
    }

    private static void bytesOfCheck() {
        Due.by("CHECK by the first n bytes of the tape");
        ClockChoir x = one("(a)x9".repeat(6) + "a6");
        x.ticks(60);
        for (int at : new int[] {0, 59, 60, 61, 127, 128, 60 + 128, 255}) {
            Due.feed(x, new byte[] {(byte) at});
            Due.due("AT 60 and byte " + at, at == 60 ? -1 : 0, x.check(1));
        }
    }

    private static void boundsOfCount() {
        Due.by("0 THE TICK, 1 told SINGERS (bits), 2 DONE ones (bits), 3 those WAITING (bits), 4 EARS, 5 TEMPO, 6 RULES, 7 bytes of the tape, 8 X; 10 + i BEATS of the ROLL of SINGER i, 20 + i FERMATAS in it. NONE for others.");
        ClockChoir x = one("a^bc");
        x.singer(7, 0, 15, 0, 1);
        Due.law(x, "u1(1=1);v1(1=1)");
        x.ears(14);
        x.ticks(1);
        Due.feed(x, "a");
        int[] due = {1, 129, 128, 1, 14, 60, 2, 20, 39022, -1, 3, 0, 0, 0, 0, 0, 0, 0, -1, -1, 1, 0, 0, 0, 0, 0, 0, 0, -1, -1, -1};
        for (int what = -3; what < 140; what++) {
            Due.due("count(" + what + ")", what < 0 || what >= due.length ? -1 : due[what], x.count(what));
        }
        for (int what : new int[] {256, 266, 65536, 65546, 1 << 31, (1 << 31) + 10, Integer.MAX_VALUE, -256, -65536}) {
            Due.due("count(" + what + ")", -1, x.count(what));
        }
    }

    private static void countOfRolls() {
        Due.by("10 + i BEATS of the ROLL of SINGER i, 20 + i FERMATAS in it");
        ClockChoir x = new ClockChoir();
        for (int i = 0; i < 8; i++) {
            Due.due("BEATS", 2 * i + 2, Due.roll(x, i, "a^".repeat(i + 1) + "b".repeat(i + 1)));
        }
        for (int i = 0; i < 8; i++) {
            Due.due("BEATS of " + i, 2 * i + 2, x.count(10 + i));
            Due.due("FERMATAS of " + i, i + 1, x.count(20 + i));
        }
        Due.due("60 FERMATAS", 60, Due.roll(x, 7, "(a^)x9".repeat(6) + "(a^)x6"));
        Due.due("60 FERMATAS", 60, x.count(27));
        Due.due("a FERMATA on the last BEAT of a sound alone", 9, Due.roll(x, 7, ".9^"));
        Due.due("one", 1, x.count(27));
    }

    private static void fullCounts() {
        Due.by("1 told SINGERS (bits), 2 DONE ones (bits), 3 those WAITING (bits)");
        ClockChoir x = new ClockChoir();
        x.tempo(60);
        for (int i = 0; i < 8; i++) {
            x.singer(i, 0, 0, 0, 1);
            Due.due("told", (2 << i) - 1, x.count(1));
            Due.due("DONE", (2 << i) - 1, x.count(2));
        }
        for (int i = 0; i < 8; i++) {
            Due.roll(x, i, "a^b");
            Due.due("DONE", 255 & -(2 << i), x.count(2));
        }
        x.ticks(1);
        Due.due("WAITING", 255, x.count(3));
        x.ticks(1);
        Due.due("WAITING", 0, x.count(3));
        x.ticks(1);
        Due.due("DONE", 255, x.count(2));
    }
}
