/** Edges of a TICK and of promises 9, 10, 14 to 16, 22 and 23, a method for each sentence. */
public final class EdgesSingingTest {
    public static void main(String[] args) {
        phaseAtTempo();
        asLongAsPhaseIsTempo();
        toldAndNotDone();
        doneAtOnce();
        missed();
        zeroAtLeast();
        lungsAgain();
        waitingUnlessDone();
        phaseIsNought();
        theTickIsOver();
        asManyFermatas();
        asWhenTheTickBegan();
        fermataOnTheLastBeatIsComeTo();
        silentOnesDrawNothing();
        whoCoughsDoesNothingMore();
        drawsWrapAround();
        drawsByNumbers();
        lastTicks();
        undoneFromTheLastTick();
        boundsOfTicks();
        ticksOfNobody();
        boundsOfTried();
        whatIsTried();
        triedChangesNothing();
        boundsOfEnd();
        endNow();
        endBehindHowMany();
        doneLast();
        boundsOfSpread();
        spreadOfFewerThanTwo();
        spreadEver();
        boundsOfFirstCome();
        firstComeNow();
        firstComeBehindHowMany();
        boundsOfAlone();
        aloneToTheTick();
        boundsOfTogether();
        togetherAtTheEnd();
        Due.finish("EdgesSingingTest");
    }

    private static ClockChoir one(int drift, int lungs, String roll, int tempo) {
        ClockChoir x = new ClockChoir();
        x.singer(0, drift, 0, 0, lungs);
        Due.roll(x, 0, roll);
        x.tempo(tempo);
        return x;
    }

    private static ClockChoir two(String first, String second) {
        ClockChoir x = one(0, 9, first, 60);
        x.singer(1, 0, 1, 0, 9);
        Due.roll(x, 1, second);
        return x;
    }

    private static void dueSinger(ClockChoir x, int i, int at, int phase, int breath, int missed, int waiting) {
        int[] due = {at, phase, breath, missed, waiting};
        String[] words = {"AT", "PHASE", "BREATH", "MISSED", "WAITING"};
        for (int k = 0; k < due.length; k++) {
            Due.due(words[k] + " of " + i, due[k], x.singerIs(i, 3 + k));
        }
    }

    // ---- a TICK

    private static void phaseAtTempo() {
        Due.by("As long as PHASE is TEMPO or more: it is less by TEMPO, and a BEAT is sung");
        for (int drift = -20; drift <= 20; drift++) {
            int speed = 60 + drift;
            for (int tempo = Math.max(60, speed - 1); tempo <= Math.max(60, speed + 1); tempo++) {
                ClockChoir x = one(drift, 9, "abc", tempo);
                Due.due("BEATS by " + speed + " at TEMPO " + tempo, speed >= tempo ? 1 : 0, x.ticks(1));
                dueSinger(x, 0, speed >= tempo ? 1 : 0, speed >= tempo ? speed - tempo : speed, 9, 0, 0);
            }
        }
        ClockChoir y = one(0, 9, "ab", 600);
        Due.due("nine", 0, y.ticks(9));
        Due.due("the tenth", 1, y.ticks(1));
        dueSinger(y, 0, 1, 0, 9, 0, 0);
    }

    private static void asLongAsPhaseIsTempo() {
        Due.by("As long as PHASE is TEMPO or more: it is less by TEMPO, and a BEAT is sung");
        int[] tempos = {60, 65, 66, 67, 72, 73, 74, 599, 600};
        for (int tempo : tempos) {
            ClockChoir x = one(0, 9, "(ab)x9", 600);
            x.ticks(9);
            Due.law(x, "u60(1=1)");
            x.tempo(tempo);
            Due.due("BEATS of 660 at TEMPO " + tempo, 660 / tempo, x.ticks(1));
            dueSinger(x, 0, 660 / tempo, 660 % tempo, 9, 0, 0);
        }
    }

    private static void toldAndNotDone() {
        Due.by("A TICK: each told SINGER that is not DONE, by numbers");
        ClockChoir x = new ClockChoir();
        x.tempo(60);
        for (int i = 0; i < 8; i++) {
            Due.roll(x, i, "ab");
        }
        Due.due("nobody is told", 0, x.ticks(1));
        x.singer(7, 0, 0, 0, 1);
        Due.due("one", 1, x.ticks(1));
        x.singer(0, 0, 0, 0, 1);
        Due.due("two", 2, x.ticks(1));
        Due.due("7 is DONE", 1, x.ticks(1));
        int draws = x.count(8);
        Due.due("both are DONE", 0, x.ticks(9));
        Due.due("who is DONE draws nothing", draws, x.count(8));
        dueSinger(x, 7, 2, 0, 1, 0, 0);
    }

    private static void doneAtOnce() {
        Due.by("One is DONE when AT is as long as the ROLL (without a ROLL at once).");
        ClockChoir x = new ClockChoir();
        x.singer(3, 0, 0, 0, 1);
        Due.due("without a ROLL", 1, x.singerIs(3, 8));
        Due.due("count(2)", 8, x.count(2));
        Due.due("BEATS", 0, x.ticks(9));
        dueSinger(x, 3, 0, 0, 1, 0, 0);
        Due.roll(x, 3, "ab");
        x.tempo(60);
        int[] done = {0, 0, 1, 1};
        for (int t = 0; t < done.length; t++) {
            Due.due("behind " + t, done[t], x.singerIs(3, 8));
            Due.due("count(2)", 8 * done[t], x.count(2));
            x.ticks(1);
        }
    }

    private static void missed() {
        Due.by("if its NOTE is no rest, and no BREATH is left, it is MISSED; if some is left, it is less by b");
        ClockChoir x = one(0, 2, "ab.cd", 60);
        Due.law(x, "b1(1=1)");
        int[] breath = {1, 0, 0, 0, 0};
        int[] missed = {0, 0, 0, 1, 2};
        for (int t = 0; t < 5; t++) {
            Due.due("BEATS, MISSED ones, too", 1, x.ticks(1));
            Due.due("BREATH", breath[t], x.singerIs(0, 5));
            Due.due("MISSED", missed[t], x.singerIs(0, 6));
        }
        Due.by("MISSED in them");
        x.anew();
        for (int n = 1; n <= 5; n++) {
            Due.due("MISSED in " + n, missed[n - 1], x.tried(n, 1));
        }
        x.ticks(4);
        Due.due("MISSED in the next one alone", 1, x.tried(1, 1));
    }

    private static void zeroAtLeast() {
        Due.by("it is less by b (0 at least");
        for (int lungs = 1; lungs <= 4; lungs++) {
            for (int b = 0; b <= 5; b++) {
                ClockChoir x = one(0, lungs, "ab", 60);
                Due.law(x, "b" + b + "(1=1)");
                x.ticks(1);
                Due.due("BREATH " + lungs + " less " + b, Math.max(0, lungs - b), x.singerIs(0, 5));
                Due.due("the first is not MISSED", 0, x.singerIs(0, 6));
                Due.due("the second, if none is left", b >= lungs ? 1 : 0, x.tried(1, 1));
            }
        }
    }

    private static void lungsAgain() {
        Due.by("with a BREATH behind it BREATH is LUNGS again");
        ClockChoir x = one(0, 3, "a,bc,d.,a,", 60);
        Due.law(x, "b3(k<4);b1(k>3)");
        // b costs 3, so c is MISSED and still breathed behind; d costs 1; the rest is breathed behind, too.
        int[] breath = {3, 0, 3, 2, 3, 3};
        for (int t = 0; t < breath.length; t++) {
            x.ticks(1);
            Due.due("BREATH behind " + (t + 1), breath[t], x.singerIs(0, 5));
        }
        Due.due("MISSED", 1, x.singerIs(0, 6));
        Due.due("DONE", 1, x.singerIs(0, 8));
    }

    private static void waitingUnlessDone() {
        Due.by("with a FERMATA he is WAITING, if he is not DONE");
        ClockChoir x = one(0, 9, "a^b^", 60);
        x.ticks(1);
        dueSinger(x, 0, 1, 0, 9, 0, 1);
        x.ticks(2);
        dueSinger(x, 0, 2, 0, 9, 0, 0);
        Due.due("DONE", 1, x.singerIs(0, 8));
        ClockChoir y = one(0, 9, "a^", 60);
        y.ticks(1);
        dueSinger(y, 0, 1, 0, 9, 0, 0);
        Due.due("WAITING", 0, y.count(3));
    }

    private static void phaseIsNought() {
        Due.by("with a FERMATA he is WAITING, if he is not DONE, PHASE is 0; when DONE PHASE is 0");
        ClockChoir x = one(20, 9, "ab^cd", 60);
        x.ticks(1);
        dueSinger(x, 0, 1, 20, 9, 0, 0);
        x.ticks(1);
        dueSinger(x, 0, 2, 0, 9, 0, 1);
        x.ticks(1);
        dueSinger(x, 0, 2, 0, 9, 0, 0);
        x.ticks(1);
        dueSinger(x, 0, 3, 20, 9, 0, 0);
        x.ticks(1);
        dueSinger(x, 0, 4, 0, 9, 0, 0);
        // With PHASE for ten BEATS: as far as the FERMATA, and as far as the end.
        ClockChoir y = one(0, 9, "abc^defg", 600);
        y.ticks(9);
        y.tempo(60);
        Due.due("as far as the FERMATA", 3, y.ticks(1));
        dueSinger(y, 0, 3, 0, 9, 0, 1);
        ClockChoir z = one(0, 9, "abcd", 600);
        z.ticks(9);
        z.tempo(60);
        Due.due("as far as the end", 4, z.ticks(1));
        dueSinger(z, 0, 4, 0, 9, 0, 0);
    }

    private static void theTickIsOver() {
        Due.by("he waits no more; this TICK is over for him");
        ClockChoir x = one(0, 9, "a^b", 60);
        Due.law(x, "c10(p=1)");
        x.ticks(1);
        int draws = x.count(8);
        Due.due("BEATS", 0, x.ticks(1));
        dueSinger(x, 0, 1, 0, 9, 0, 0);
        Due.due("nothing was drawn", draws, x.count(8));
        Due.due("now he coughs", 1, x.tried(1, 2));
        Due.due("BEATS", 0, x.ticks(1));
        Due.due("a DRAW", drawFrom(draws), x.count(8));
    }

    private static void asManyFermatas() {
        Due.by("if each told SINGER whose ROLL has so many FERMATAS as he has come to has come to as many");
        // 0 stands at his second FERMATA; 1 is silent for good behind none, one or two of his own.
        String[] rolls = {"abc", "a^bc", "ab^c^", "a^b^c", "a^b^c^d"};
        for (String roll : rolls) {
            for (int stop = 0; stop <= 2; stop++) {
                ClockChoir x = two("a^b^c", roll);
                Due.law(x, "x(s=1&p=" + stop + ")");
                int fermatas = 0;
                for (int b = 0; b < stop; b++) {
                    fermatas += x.beat(1, b, 1);
                }
                int all = x.count(21);
                // At his first FERMATA 0 is held back, if 1 has one at all and never comes to it.
                boolean first = all < 1 || fermatas >= 1;
                boolean second = all < 2 || fermatas >= 2;
                Due.due("AT of 0 with " + roll + " that stops at " + stop, !first ? 1 : !second ? 2 : 3, x.tried(99, 10));
            }
        }
        Due.by("each told SINGER");
        ClockChoir y = two("a^b", "ab^c");
        Due.roll(y, 7, "abcdefga^b");
        Due.due("7 is not told", 2, y.tried(9, 10));
        y.singer(7, 0, 0, 0, 9);
        Due.due("7 is told", 1, y.tried(9, 10));
        Due.due("7 has come, as when the TICK began", 2, y.tried(10, 10));
    }

    private static void asWhenTheTickBegan() {
        Due.by("has come to as many (as when the TICK began)");
        for (int late = 0; late < 8; late++) {
            // He who is late is the lower one, or the higher one: that makes no difference.
            for (int turn = 0; turn < 2; turn++) {
                String slow = ".".repeat(late) + "a^b";
                ClockChoir x = turn == 0 ? two("a^b", slow) : two(slow, "a^b");
                int quick = turn == 0 ? 0 : 1;
                Due.due("WAITS when the other has come", 1, x.tried(late + 1, 10 + quick));
                Due.due("all WAIT then", 2, x.tried(late + 1, 3));
                Due.due("nobody WAITS a TICK later", 0, x.tried(late + 2, 3));
                Due.due("nor sings in it", 1, x.tried(late + 2, 10 + quick));
                Due.due("but in the next one", 2, x.tried(late + 3, 10 + quick));
            }
        }
    }

    private static void fermataOnTheLastBeatIsComeTo() {
        Due.by("as he has come to has come to as many");
        ClockChoir x = two("a^b", "...a^");
        Due.due("0 WAITS", 1, x.tried(4, 3));
        Due.due("1 is DONE, and has come to it", 0, x.tried(5, 3));
        Due.due("AT of 0", 2, x.tried(6, 10));
    }

    private static void silentOnesDrawNothing() {
        Due.by("(2) By x he is silent.");
        ClockChoir x = one(0, 9, "ab", 60);
        Due.law(x, "x(t<5)");
        Due.due("BEATS", 0, x.ticks(5));
        Due.due("X", 1, x.count(8));
        dueSinger(x, 0, 0, 0, 9, 0, 0);
        Due.due("BEATS", 1, x.ticks(1));
        Due.due("X", drawFrom(1), x.count(8));
        ClockChoir y = one(0, 9, "abcdefg", 600);
        y.ticks(9);
        y.tempo(60);
        Due.law(y, "x(1=1)");
        Due.due("whatever his PHASE is", 0, y.ticks(9));
        dueSinger(y, 0, 0, 540, 9, 0, 0);
    }

    private static void whoCoughsDoesNothingMore() {
        Due.by("(3) With a DRAW below c he coughs (nothing more).");
        ClockChoir x = one(20, 9, "ab", 600);
        x.ticks(7);
        x.tempo(60);
        Due.law(x, "c10(1=1);u60(1=1)");
        Due.due("BEATS", 0, x.ticks(9));
        dueSinger(x, 0, 0, 560, 9, 0, 0);
    }

    private static int drawFrom(int state) {
        return (int) ((25173L * state + 13849) % 65536);
    }

    private static void drawsWrapAround() {
        Due.by("DRAWS: X = (25173 X + 13849) modulo 65536 (X is THE SEED at first, 1): X modulo 10.");
        for (int seed : new int[] {0, 1, 2, 32767, 32768, 65534, 65535}) {
            ClockChoir x = one(0, 9, "(ab)x9", 600);
            Due.due("seed", true, x.seed(seed));
            Due.law(x, "c5(1=1)");
            int state = seed;
            int phase = 0;
            for (int k = 0; k < 12; k++) {
                x.ticks(1);
                state = drawFrom(state);
                Due.due("X from " + seed + " on", state, x.count(8));
                phase = (phase + (state % 10 < 5 ? 0 : 60)) % 600;
                Due.due("PHASE", phase, x.singerIs(0, 4));
            }
        }
        Due.due("0 draws", 13849, drawFrom(0));
        Due.due("65535 draws", 54212, drawFrom(65535));
    }

    private static void drawsByNumbers() {
        Due.by("A TICK: each told SINGER that is not DONE, by numbers");
        ClockChoir x = new ClockChoir();
        x.tempo(600);
        for (int i = 7; i >= 0; i--) {
            x.singer(i, 0, 0, 0, 1);
            Due.roll(x, i, "a");
        }
        Due.law(x, "c5(1=1);x(s=3)");
        x.ticks(1);
        int state = 1;
        for (int i = 0; i < 8; i++) {
            state = i == 3 ? state : drawFrom(state);
            Due.due("PHASE of " + i, i == 3 || state % 10 < 5 ? 0 : 60, x.singerIs(i, 4));
        }
        Due.due("X", state, x.count(8));
    }

    private static ClockChoir nearTheLastTick(int left) {
        ClockChoir x = new ClockChoir();
        for (int k = 0; k < 416; k++) {
            x.ticks(240);
        }
        x.ticks(99999 - 416 * 240 - left);
        Due.due("THE TICK", 99999 - left, x.count(0));
        x.tempo(60);
        x.singer(0, 0, 0, 0, 9);
        x.singer(1, 0, 1, 0, 9);
        return x;
    }

    private static void lastTicks() {
        Due.by("THE TICK is one more (99999 at most: then none goes by)");
        ClockChoir x = nearTheLastTick(2);
        Due.roll(x, 0, "abc");
        Due.roll(x, 1, ".a^bcd");
        for (int n : new int[] {1, 2, 3, 240}) {
            Due.due("tried: as many as can", Math.min(n, 2), x.tried(n, 10));
            Due.due("BEATS", 2 * Math.min(n, 2), x.tried(n, 0));
            Due.due("together: as many as can", Math.min(n, 2), x.together(0, 1, n));
        }
        Due.due("the end does not come any more", -2, x.end(240, 0));
        Due.due("who", -2, x.end(240, 1));
        Due.due("first come", 2, x.firstCome(240, 1));
        Due.due("spread", 0, x.spread(240));
        Due.law(x, "x(s=0&!t=97);x(s=1)");
        Due.due("t in the last TICKS but one", 1, x.tried(240, 10));
        Due.law(x, "x(s=0&!t=98);x(s=1)");
        Due.due("t in the last one", 1, x.tried(240, 10));
        Due.due("not ahead of it", 0, x.tried(1, 10));
        Due.due("nobody comes", -2, x.firstCome(240, 0));
        Due.due("spread", 1, x.spread(240));
        Due.due("BEATS", 0, x.ticks(1));
        Due.due("THE TICK", 99998, x.count(0));
        Due.due("BEATS", 1, x.ticks(240));
        Due.due("THE TICK", 99999, x.count(0));
        int draws = x.count(8);
        Due.law(x, "u1(1=1)");
        for (int n : new int[] {1, 240}) {
            Due.due("none goes by", 0, x.ticks(n));
            Due.due("none is tried", 0, x.tried(n, 0));
            Due.due("AT", 1, x.tried(n, 10));
            Due.due("none together", 0, x.together(0, 1, n));
            Due.due("no end", -2, x.end(n, 0));
            Due.due("no spread", 0, x.spread(n));
            Due.due("nobody comes", -2, x.firstCome(n, 1));
        }
        Due.due("THE TICK", 99999, x.count(0));
        Due.due("X", draws, x.count(8));
        dueSinger(x, 0, 1, 0, 9, 0, 0);
        Due.by("(0: now)");
        Due.roll(x, 0, "a");
        x.singer(2, 0, 0, 0, 1);
        Due.due("the end does not come", -2, x.end(9, 0));
    }

    private static void undoneFromTheLastTick() {
        Due.by("UNDONE: as they were KEPT last");
        ClockChoir x = nearTheLastTick(1);
        Due.roll(x, 0, "abc");
        Due.due("keep()", 99998, x.keep());
        Due.due("BEATS", 1, x.ticks(240));
        Due.due("none goes by", 0, x.ticks(1));
        Due.due("anew", 2, x.anew());
        Due.due("none goes by", 0, x.ticks(1));
        x.undo();
        Due.due("THE TICK", 99998, x.count(0));
        Due.due("one goes by again", 1, x.ticks(240));
    }

    // ---- promises

    private static void boundsOfTicks() {
        Due.by("TICKS (1 to 240; as many as can) go by: how many BEATS were sung; NONE: no such n.");
        for (int n : Edges.around(1, 240)) {
            ClockChoir x = one(0, 9, "abc", 60);
            boolean can = Edges.within(n, 1, 240);
            Due.due("ticks(" + n + ")", can ? Math.min(n, 3) : -1, x.ticks(n));
            Due.due("THE TICK", can ? n : 0, x.count(0));
        }
    }

    private static void ticksOfNobody() {
        Due.by("THE TICK is one more");
        ClockChoir x = new ClockChoir();
        Due.due("BEATS of nobody", 0, x.ticks(240));
        Due.due("THE TICK", 240, x.count(0));
        Due.due("X", 1, x.count(8));
    }

    private static void boundsOfTried() {
        Due.by("TICKS (1 to 240; as many as can) that are tried");
        ClockChoir x = one(0, 9, "abc", 60);
        for (int n : Edges.around(1, 240)) {
            boolean can = Edges.within(n, 1, 240);
            Due.due("tried(" + n + ", 0)", can ? Math.min(n, 3) : -1, x.tried(n, 0));
            Due.due("tried(" + n + ", 10)", can ? Math.min(n, 3) : -1, x.tried(n, 10));
        }
        Due.by("what 0 BEATS sung in them, 1 MISSED in them, 2 coughs, 3 how many are WAITING then, 10 + i AT, 20 + i PHASE, 30 + i BREATH of told SINGER i then; NONE: no such ones.");
        for (int told = 0; told < 3; told++) {
            ClockChoir y = new ClockChoir();
            int bits = told == 0 ? 0 : told == 1 ? 0b10100101 : 255;
            for (int i = 0; i < 8; i++) {
                if ((bits >> i & 1) != 0) {
                    y.singer(i, i, 0, 0, i + 1);
                    Due.roll(y, i, "a");
                }
            }
            for (int what = -3; what <= 60; what++) {
                int i = what % 10;
                boolean ofOne = what >= 10 && what < 40 && i < 8 && (bits >> i & 1) != 0;
                int due = Edges.within(what, 0, 3) ? 0 : !ofOne ? -1 : what < 20 ? 0 : what < 30 ? 60 + i : i + 1;
                Due.due("tried(1, " + what + ")", due, y.tried(1, what));
            }
            for (int what : new int[] {100, 256, 266, 65536, 65546, Integer.MIN_VALUE, Integer.MIN_VALUE + 10, Integer.MAX_VALUE}) {
                Due.due("tried(1, " + what + ")", -1, y.tried(1, what));
            }
        }
    }

    private static void whatIsTried() {
        Due.by("3 how many are WAITING then");
        ClockChoir x = new ClockChoir();
        x.tempo(60);
        for (int i = 0; i < 8; i++) {
            x.singer(i, 0, 0, 0, 1);
            Due.roll(x, i, i == 7 ? ".......a^b" : ".".repeat(i) + "a^b");
        }
        for (int n = 1; n <= 8; n++) {
            Due.due("WAITING behind " + n, n, x.tried(n, 3));
        }
        Due.due("WAITING behind 9", 0, x.tried(9, 3));
        Due.by("2 coughs");
        Due.law(x, "c10(1=1)");
        Due.due("all cough", 8 * 240, x.tried(240, 2));
        Due.due("none WAITS", 0, x.tried(240, 3));
    }

    private static void triedChangesNothing() {
        Due.by("TRIED are n TICKS by the DRAWS that will come (nothing is changed).");
        ClockChoir x = one(7, 3, "(ab^c,)x9", 100);
        x.singer(1, -7, 1, 0, 2);
        Due.roll(x, 1, "(b^a.)x9");
        Due.law(x, "c3(1=1);b1(1=1);u9(a>0);v5(a<0)");
        for (int turn = 0; turn < 6; turn++) {
            int[] due = new int[40];
            for (int what = 0; what < 40; what++) {
                due[what] = x.tried(7, what);
            }
            int missed = x.singerIs(0, 6) + x.singerIs(1, 6);
            Due.due("THE TICK is as it was", 7 * turn, x.count(0));
            Due.due("BEATS", due[0], x.ticks(7));
            Due.due("MISSED", due[1], x.singerIs(0, 6) + x.singerIs(1, 6) - missed);
            Due.due("WAITING", due[3], Integer.bitCount(x.count(3)));
            for (int i = 0; i < 2; i++) {
                Due.due("AT", due[10 + i], x.singerIs(i, 3));
                Due.due("PHASE", due[20 + i], x.singerIs(i, 4));
                Due.due("BREATH", due[30 + i], x.singerIs(i, 5));
            }
        }
    }

    private static void boundsOfEnd() {
        Due.by("THE END in n TICKS (1 to 240), what 0 behind how many (0: now), 1 who; -2: not in these; NONE: no such ones, nobody is told.");
        ClockChoir x = one(0, 9, "abc", 60);
        ClockChoir nobody = new ClockChoir();
        Due.roll(nobody, 0, "abc");
        for (int n : Edges.around(1, 240)) {
            boolean can = Edges.within(n, 1, 240);
            Due.due("end(" + n + ", 0)", !can ? -1 : n < 3 ? -2 : 3, x.end(n, 0));
            Due.due("end(" + n + ", 1)", !can ? -1 : n < 3 ? -2 : 0, x.end(n, 1));
            Due.due("nobody is told", -1, nobody.end(n, 0));
            Due.due("nobody is told", -1, nobody.end(n, 1));
        }
        for (int what : Edges.around(0, 1)) {
            Due.due("end(9, " + what + ")", what == 0 ? 3 : what == 1 ? 0 : -1, x.end(9, what));
        }
    }

    private static void endNow() {
        Due.by("(1, if all are DONE now: -2.)");
        ClockChoir x = new ClockChoir();
        x.singer(5, 0, 0, 0, 9);
        Due.due("without a ROLL: now", 0, x.end(1, 0));
        Due.due("who", -2, x.end(1, 1));
        Due.due("wrong n all the same", -1, x.end(0, 0));
        Due.due("wrong n all the same", -1, x.end(241, 1));
        Due.due("wrong what all the same", -1, x.end(1, 2));
        Due.roll(x, 5, "a");
        x.tempo(60);
        Due.due("behind one", 1, x.end(1, 0));
        Due.due("who", 5, x.end(1, 1));
        x.ticks(1);
        Due.due("now", 0, x.end(240, 0));
        Due.due("who", -2, x.end(240, 1));
    }

    private static void endBehindHowMany() {
        Due.by("THE END: behind how many of n TICKS all told SINGERS are DONE");
        ClockChoir x = one(-20, 9, "(a)x9".repeat(6) + "a6", 160);
        Due.due("240 TICKS of 40 at TEMPO 160", 240, x.end(240, 0));
        Due.due("not in 239", -2, x.end(239, 0));
        x.tempo(161);
        Due.due("not in 240", -2, x.end(240, 0));
        Due.due("who", -2, x.end(240, 1));
    }

    private static void doneLast() {
        Due.by("who was DONE last (of one TICK the highest)");
        ClockChoir x = new ClockChoir();
        x.tempo(60);
        for (int i = 0; i < 8; i++) {
            x.singer(i, 0, 0, 0, 1);
            Due.roll(x, i, i < 4 ? "abc" : "ab");
        }
        Due.due("of 0 to 3 the highest", 3, x.end(9, 1));
        Due.roll(x, 0, "abcd");
        Due.due("0 alone is last", 0, x.end(9, 1));
        Due.roll(x, 7, "abcd");
        Due.due("7 and 0", 7, x.end(9, 1));
        x.ticks(3);
        Due.due("those who are DONE already are not last", 7, x.end(9, 1));
        Due.roll(x, 7, "a");
        Due.roll(x, 0, "ab");
        Due.due("0 behind 7", 0, x.end(9, 1));
    }

    private static void boundsOfSpread() {
        Due.by("SPREAD in n TICKS (1 to 240; fewer than two: 0); NONE: no such n.");
        ClockChoir x = two("(ab)x9", "(ab)x9");
        Due.law(x, "x(s=1)");
        for (int n : Edges.around(1, 240)) {
            boolean can = Edges.within(n, 1, 240);
            Due.due("spread(" + n + ")", can ? Math.min(n, 17) : -1, x.spread(n));
        }
    }

    private static void spreadOfFewerThanTwo() {
        Due.by("fewer than two: 0");
        ClockChoir x = new ClockChoir();
        Due.due("nobody", 0, x.spread(240));
        x.tempo(60);
        x.singer(2, 0, 0, 0, 1);
        Due.due("one without a ROLL", 0, x.spread(240));
        Due.roll(x, 2, "abcdefg");
        Due.due("one", 0, x.spread(240));
        x.ticks(5);
        x.singer(4, 0, 0, 0, 1);
        Due.due("another one who is DONE", 0, x.spread(240));
        Due.roll(x, 4, "abc");
        Due.due("two", 5, x.spread(240));
        Due.roll(x, 4, "a");
        Due.due("the other one is DONE at the end of the first TICK", 0, x.spread(240));
        ClockChoir y = two("abc", "abc");
        Due.due("both AT the same", 0, y.spread(240));
        Due.law(y, "x(1=1)");
        Due.due("both at the beginning", 0, y.spread(240));
    }

    private static void spreadEver() {
        Due.by("the greatest that ATs of two told SINGERS that are not DONE ever are apart at the end of a TICK in n of these");
        ClockChoir x = two("(ab)x9", "(ab)x9");
        Due.law(x, "x(s=0&t>3);x(s=1&t<3)");
        // ATs: 1 0, 2 0, 3 0, 4 1, 4 2, 4 3, 4 4, 4 5 ... 4 17 when TICK 20 ends.
        int[] due = {1, 2, 3, 3, 3, 3, 3, 3, 3, 3, 4, 5, 6, 7};
        for (int n = 1; n <= due.length; n++) {
            Due.due("spread(" + n + ")", due[n - 1], x.spread(n));
        }
        Due.due("till 1 is DONE", 13, x.spread(240));
        x.ticks(3);
        Due.due("as it is now does not count", 3, x.spread(1));
        Due.law(x, "x(s=0)");
        Due.due("as it is now does not count", 2, x.spread(1));
        ClockChoir y = two("abcdefg", "abcdefg");
        y.singer(7, 0, 0, 0, 1);
        Due.roll(y, 7, "abcdefg");
        Due.law(y, "x(s=1&p=1);x(s=7&p=3)");
        Due.due("of three the two farthest", 5, y.spread(6));
    }

    private static void boundsOfFirstCome() {
        Due.by("FIRST COME in n TICKS (1 to 240), what 0 who, 1 behind how many (0: one WAITS now); -2: nobody; NONE: no such ones.");
        ClockChoir x = two("abcd", "ab^cd");
        ClockChoir nobody = new ClockChoir();
        for (int n : Edges.around(1, 240)) {
            boolean can = Edges.within(n, 1, 240);
            Due.due("firstCome(" + n + ", 0)", !can ? -1 : n < 2 ? -2 : 1, x.firstCome(n, 0));
            Due.due("firstCome(" + n + ", 1)", !can ? -1 : n < 2 ? -2 : 2, x.firstCome(n, 1));
            Due.due("nobody is told", can ? -2 : -1, nobody.firstCome(n, 0));
        }
        for (int what : Edges.around(0, 1)) {
            Due.due("firstCome(9, " + what + ")", what == 0 ? 1 : what == 1 ? 2 : -1, x.firstCome(9, what));
            Due.due("nobody is told", Edges.within(what, 0, 1) ? -2 : -1, nobody.firstCome(9, what));
        }
    }

    private static void firstComeNow() {
        Due.by("1 behind how many (0: one WAITS now)");
        ClockChoir x = two("..a^b", "a^b");
        x.ticks(1);
        Due.due("who", 1, x.firstCome(1, 0));
        Due.due("now", 0, x.firstCome(1, 1));
        x.ticks(2);
        Due.due("the lowest of those who WAIT", 0, x.firstCome(240, 0));
        Due.due("now", 0, x.firstCome(240, 1));
        x.ticks(1);
        Due.due("nobody any more", -2, x.firstCome(240, 0));
        Due.due("nobody any more", -2, x.firstCome(240, 1));
    }

    private static void firstComeBehindHowMany() {
        Due.by("FIRST COME: the first of all that WAITS in n TICKS (of one TICK the lowest), behind how many.");
        ClockChoir x = one(-20, 9, "(a)x9".repeat(6) + "a5^b", 160);
        Due.due("59 BEATS of four TICKS each", 236, x.firstCome(236, 1));
        Due.due("not in one less", -2, x.firstCome(235, 1));
        x.singer(6, -20, 0, 0, 1);
        Due.roll(x, 6, "(a)x9".repeat(6) + "a5^b");
        Due.due("of one TICK the lowest", 0, x.firstCome(240, 0));
        x.singer(6, -19, 0, 0, 1);
        Due.due("6 is quicker", 6, x.firstCome(240, 0));
        x.tempo(600);
        Due.due("nobody in 240", -2, x.firstCome(240, 0));
    }

    private static void boundsOfAlone() {
        Due.by("ALONE of a told SINGER: TICKS; NONE: no such one.");
        ClockChoir x = one(0, 9, "abc", 60);
        for (int i : Edges.around(0, 7)) {
            Due.due("alone(" + i + ")", i == 0 ? 3 : -1, x.alone(i));
        }
        Due.roll(x, 7, "ab");
        Due.due("7 is not told", -1, x.alone(7));
        x.singer(7, 0, 0, 0, 1);
        Due.due("7 is told", 2, x.alone(7));
        x.singer(6, 0, 0, 0, 1);
        Due.due("without a ROLL", 0, x.alone(6));
    }

    private static void aloneToTheTick() {
        Due.by("ALONE: in how many TICKS a told SINGER would sing a ROLL of his from its beginning by 60 and DRIFT a TICK (no law, nobody waited for: FERMATAS do nothing).");
        int[] drifts = {-20, -19, -1, 0, 1, 19, 20};
        int[] tempos = {60, 61, 79, 80, 81, 120, 160, 599, 600};
        String[] rolls = {"a", "ab", "a^.^b^", "(a)x9".repeat(6) + "a6"};
        for (int drift : drifts) {
            for (int tempo : tempos) {
                ClockChoir x = one(drift, 1, "a", tempo);
                for (String roll : rolls) {
                    int beats = Due.roll(x, 0, roll);
                    int ticks = 0;
                    while (ticks * (60 + drift) < beats * tempo) {
                        ticks++;
                    }
                    x.ticks(3);
                    Due.law(x, "x(1=1)");
                    Due.due(roll + " by " + drift + " at " + tempo, ticks, x.alone(0));
                    Due.law(x, "u60(1=1)");
                    Due.due("by no law", ticks, x.alone(0));
                }
            }
        }
    }

    private static void boundsOfTogether() {
        Due.by("TOGETHER of two told SINGERS (not the same) in n TICKS (1 to 240; as many as can); NONE: no such ones.");
        ClockChoir x = two("abc", "abcd");
        for (int n : Edges.around(1, 240)) {
            Due.due("together(0, 1, " + n + ")", Edges.within(n, 1, 240) ? Math.min(n, 3) : -1, x.together(0, 1, n));
        }
        for (int i : Edges.around(0, 7)) {
            Due.due("together(" + i + ", 1, 9)", i == 0 ? 3 : -1, x.together(i, 1, 9));
            Due.due("together(0, " + i + ", 9)", i == 1 ? 3 : -1, x.together(0, i, 9));
            Due.due("together(" + i + ", " + i + ", 9)", -1, x.together(i, i, 9));
        }
        Due.due("together(0, 2, 9): 2 is not told", -1, x.together(0, 2, 9));
        Due.due("the other way round", 3, x.together(1, 0, 240));
    }

    private static void togetherAtTheEnd() {
        Due.by("at the end of how many of n TICKS that are tried two told SINGERS are AT the same");
        ClockChoir x = two("abc", "abc");
        Due.law(x, "x(s=0&t=0);x(s=1&t=1)");
        // ATs: 0 1, 1 1, 2 2, 3 3, then both are DONE.
        int[] due = {0, 1, 2, 3, 4, 5};
        for (int n = 1; n <= due.length; n++) {
            Due.due("together in " + n, due[n - 1], x.together(0, 1, n));
        }
        Due.due("together in 240", 239, x.together(0, 1, 240));
        ClockChoir y = new ClockChoir();
        y.singer(0, 0, 0, 0, 1);
        y.singer(1, 0, 0, 0, 1);
        Due.due("both without a ROLL", 240, y.together(0, 1, 240));
    }
}
