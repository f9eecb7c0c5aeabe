/** Promises 9 to 16, 22 and 23: TICKS by THE LAW, what is tried, who is DONE, WAITS, drifts apart. */
public final class SingingTest {
    public static void main(String[] args) {
        plainTicks();
        wrongNumbers();
        fermatas();
        waitingForThoseWhoHaveSoMany();
        breath();
        restsCostNoBreath();
        hurryAndSlowDown();
        lettersOfTheLaw();
        reckoning();
        refusedDivisions();
        silence();
        coughs();
        lastTick();
        theEnd();
        spread();
        firstCome();
        alone();
        together();
        Due.finish("SingingTest");
    }

    private static ClockChoir one(int drift, int lungs, String roll) {
        ClockChoir x = new ClockChoir();
        x.singer(0, drift, 0, 0, lungs);
        Due.roll(x, 0, roll);
        return x;
    }

    private static void plainTicks() {
        ClockChoir x = one(10, 5, "abc.d");
        Due.due("ticks(1)", 0, x.ticks(1));
        Due.due("PHASE", 70, x.singerIs(0, 4));
        Due.due("tried(1, 0)", 1, x.tried(1, 0));
        Due.due("tried(1, 10)", 1, x.tried(1, 10));
        Due.due("tried(1, 20)", 20, x.tried(1, 20));
        Due.due("tried(1, 30)", 5, x.tried(1, 30));
        Due.due("nothing is changed", 0, x.singerIs(0, 3));
        Due.due("nothing is changed", 1, x.count(0));
        Due.due("tried(240, 0)", 5, x.tried(240, 0));
        Due.due("tried(240, 20): DONE, PHASE 0", 0, x.tried(240, 20));
        Due.due("ticks(1)", 1, x.ticks(1));
        Due.due("PHASE", 20, x.singerIs(0, 4));
        Due.due("ticks(240)", 4, x.ticks(240));
        Due.due("THE TICK", 242, x.count(0));
        Due.due("DONE", 1, x.count(2));
        Due.due("PHASE", 0, x.singerIs(0, 4));
        Due.due("singerIs(0, 8)", 1, x.singerIs(0, 8));
        Due.due("ticks of one who is DONE", 0, x.ticks(3));
    }

    private static void wrongNumbers() {
        ClockChoir x = one(0, 5, "abc");
        for (int n : new int[] {0, -1, 241, Integer.MIN_VALUE, Integer.MAX_VALUE}) {
            Due.due("ticks", -1, x.ticks(n));
            Due.due("tried", -1, x.tried(n, 0));
            Due.due("end", -1, x.end(n, 0));
            Due.due("spread", -1, x.spread(n));
            Due.due("firstCome", -1, x.firstCome(n, 0));
        }
        for (int what : new int[] {-1, 4, 9, 11, 17, 18, 19, 21, 28, 31, 38, 40, Integer.MIN_VALUE, Integer.MAX_VALUE}) {
            Due.due("tried(1, " + what + ")", -1, x.tried(1, what));
        }
        for (int what : new int[] {-1, 2}) {
            Due.due("end", -1, x.end(1, what));
            Due.due("firstCome", -1, x.firstCome(1, what));
        }
        Due.due("no TICK went by", 0, x.count(0));
    }

    /** In a TICK in which one finds that all have come, he still does nothing more. */
    private static void fermatas() {
        ClockChoir x = one(0, 5, "a^b^");
        x.singer(1, 0, 0, 0, 5);
        Due.roll(x, 1, "..a^b");
        x.tempo(60);
        Due.due("tick 1", 2, x.ticks(1));
        Due.due("0 WAITS", 1, x.count(3));
        Due.due("tick 2", 1, x.ticks(1));
        Due.due("0 WAITS", 1, x.count(3));
        Due.due("tick 3", 1, x.ticks(1));
        Due.due("both WAIT", 3, x.count(3));
        Due.due("tick 4: nobody sings", 0, x.ticks(1));
        Due.due("nobody WAITS", 0, x.count(3));
        Due.due("tick 5", 2, x.ticks(1));
        Due.due("a FERMATA on the last BEAT is not waited on", 0, x.count(3));
        Due.due("both are DONE", 3, x.count(2));

        ClockChoir y = one(20, 5, "a^b");
        y.tempo(60);
        Due.due("alone: sings", 1, y.ticks(1));
        Due.due("alone: WAITS", 1, y.singerIs(0, 7));
        Due.due("PHASE is 0", 0, y.singerIs(0, 4));
        Due.due("alone: waits for nobody but a TICK", 0, y.ticks(1));
        Due.due("alone: WAITS no more", 0, y.singerIs(0, 7));
        Due.due("alone: sings", 1, y.ticks(1));

        ClockChoir z = one(0, 5, "a^b^c^d");
        z.tempo(60);
        z.ticks(1);
        z.tempo(600);
        z.singer(1, 0, 0, 0, 5);
        Due.due("one without a ROLL is not waited for", 0, z.tried(1, 3));

        ClockChoir w = one(0, 5, "...a^b");
        w.singer(1, 0, 0, 0, 5);
        Due.roll(w, 1, "a^b");
        w.tempo(60);
        Due.due("1 waits for 0", 1, w.tried(2, 3));
        Due.due("1 waits for 0 still", 1, w.tried(3, 11));
        Due.due("both WAIT", 2, w.tried(4, 3));
        Due.due("none WAITS", 0, w.tried(5, 3));
    }

    private static void waitingForThoseWhoHaveSoMany() {
        ClockChoir x = one(0, 5, "a^b^c");
        x.singer(1, 0, 0, 0, 5);
        Due.roll(x, 1, ".a^........");
        Due.roll(x, 2, "........a^b");
        x.tempo(60);
        Due.due("ticks(1)", 2, x.ticks(1));
        Due.due("0 WAITS for 1", 1, x.count(3));
        Due.due("ticks(1)", 1, x.ticks(1));
        Due.due("1 has come; by ATs as the TICK began not yet", 3, x.count(3));
        Due.due("ticks(1)", 0, x.ticks(1));
        Due.due("none waits for 2, who is not told", 0, x.count(3));
        Due.due("ticks(1)", 2, x.ticks(1));
        Due.due("0 WAITS at his second", 1, x.count(3));
        Due.due("ticks(1)", 1, x.ticks(1));
        Due.due("1 has no second one: 0 WAITS no more", 0, x.count(3));
        x.anew();
        x.singer(2, 0, 0, 0, 5);
        Due.due("now 2 is waited for", 2, x.tried(8, 3));
        Due.due("till he has come", 3, x.tried(9, 3));
        Due.due("then no more", 0, x.tried(10, 3));
    }

    private static void breath() {
        ClockChoir x = one(0, 5, "abcd,ef");
        x.tempo(60);
        Due.due("law", 1, Due.law(x, "b2(1=1)"));
        int[] breath = {3, 1, 0, 5, 3, 1};
        int[] missed = {0, 0, 0, 1, 1, 1};
        for (int n = 1; n <= 6; n++) {
            Due.due("BREATH behind " + n, breath[n - 1], x.tried(n, 30));
            Due.due("MISSED in " + n, missed[n - 1], x.tried(n, 1));
        }
        x.ticks(4);
        Due.due("MISSED", 1, x.singerIs(0, 6));
        Due.due("MISSED in the next ones", 0, x.tried(2, 1));
        Due.due("MISSED BEATS are sung", 4, x.singerIs(0, 3));

        ClockChoir y = one(0, 9, "aabb");
        y.tempo(60);
        Due.due("law by NOTES", 2, Due.law(y, "b1(k=1);b3(k=2)"));
        int[] left = {8, 7, 4, 1};
        for (int n = 1; n <= 4; n++) {
            Due.due("by NOTES: BREATH behind " + n, left[n - 1], y.tried(n, 30));
        }
        Due.due("law by BREATH left", 1, Due.law(y, "bl/2(1=1)"));
        int[] half = {5, 3, 2, 1};
        for (int n = 1; n <= 4; n++) {
            Due.due("by BREATH left: BREATH behind " + n, half[n - 1], y.tried(n, 30));
        }
        // Several BEATS in one TICK: l and k as they are then, p as when the TICK began.
        y.tempo(600);
        y.ticks(9);
        y.tempo(60);
        Due.due("four BEATS in a TICK", 1, y.tried(1, 30));
        Due.due("law by AT", 1, Due.law(y, "b1(p=0)"));
        Due.due("AT stays 0 through the TICK", 5, y.tried(1, 30));
        Due.due("bounds", 1, Due.law(y, "b99(1=1)"));
        Due.due("0 at least", 0, y.tried(1, 30));
        Due.due("three are MISSED", 3, y.tried(1, 1));
        Due.due("bounds", 1, Due.law(y, "b0-5(1=1)"));
        Due.due("no less than 0", 9, y.tried(1, 30));
    }

    private static void restsCostNoBreath() {
        ClockChoir x = one(0, 2, ".a.b.c.");
        x.tempo(60);
        Due.law(x, "b1(1=1)");
        int[] breath = {2, 1, 1, 0, 0, 0, 0};
        int[] missed = {0, 0, 0, 0, 0, 1, 1};
        for (int n = 1; n <= 7; n++) {
            Due.due("BREATH behind " + n, breath[n - 1], x.tried(n, 30));
            Due.due("MISSED in " + n, missed[n - 1], x.tried(n, 1));
        }
    }

    private static void hurryAndSlowDown() {
        ClockChoir x = one(-20, 5, "abcdefg");
        x.tempo(600);
        String[] laws = {"u60(1=1)", "u61(1=1)", "u0-1(1=1)", "v60(1=1)", "v40(1=1)", "v39(1=1)", "u5(1=2);u7(1=1);u9(1=1)",
            "u60(1=1);v60(1=1)", "v60(1=1);u30(1=1)", "v100(1=1);u100(1=1)"};
        int[] more = {100, 100, 40, 0, 0, 1, 47, 40, 10, 40};
        for (int k = 0; k < laws.length; k++) {
            Due.law(x, laws[k]);
            Due.due("PHASE by " + laws[k], more[k], x.tried(1, 20));
        }
        Due.law(x, "v60(t=1)");
        Due.due("PHASE is never less: behind one", 40, x.tried(1, 20));
        Due.due("PHASE is never less: behind two", 40, x.tried(2, 20));
        Due.due("PHASE is never less: behind three", 80, x.tried(3, 20));
    }

    private static int phaseBy(ClockChoir x, int i, String law) {
        Due.law(x, law);
        return x.tried(1, 20 + i) - x.singerIs(i, 4);
    }

    private static void lettersOfTheLaw() {
        ClockChoir x = new ClockChoir();
        x.singer(3, -7, 4, 0, 9);
        x.singer(1, 0, 3, 0, 9);
        x.singer(2, 0, 9, 1, 9);
        Due.roll(x, 3, "(dg.)x9");
        Due.roll(x, 1, "(ab)x9");
        x.tempo(60);
        Due.due("two TICKS", 3, x.ticks(2));
        Due.due("AT of 3", 1, x.singerIs(3, 3));
        Due.due("AT of 1", 2, x.singerIs(1, 3));
        x.tempo(600);
        Due.due("s", 53 + 3, phaseBy(x, 3, "us(1=1)"));
        Due.due("d", 53 + 3, phaseBy(x, 3, "u10+d(d<0)"));
        Due.due("p", 53 + 1, phaseBy(x, 3, "up(1=1)"));
        Due.due("n", 53 + 2, phaseBy(x, 3, "un(1=1)"));
        Due.due("l", 53 + 9, phaseBy(x, 3, "ul(1=1)"));
        Due.due("k", 53 + 7, phaseBy(x, 3, "uk(1=1)"));
        Due.due("t", 53 + 2, phaseBy(x, 3, "ut(1=1)"));
        Due.due("a: 2 and 0 of two others, 1 his own", 53 + 10, phaseBy(x, 3, "u10+a(1=1)"));
        x.ears(1);
        Due.due("a: 2 of one other, 1 his own", 53 + 11, phaseBy(x, 3, "u10+a(1=1)"));
        Due.due("n near", 53 + 1, phaseBy(x, 3, "un(1=1)"));
        x.ears(0);
        Due.due("a of nobody", 53 + 10, phaseBy(x, 3, "u10+a(1=1)"));
        x.ears(15);
        Due.roll(x, 2, "...");
        x.singer(2, 0, 9, 0, 9);
        Due.due("a is below 0: 1 and 0 of two others, 2 his own", 60 + 8, phaseBy(x, 1, "u10+a(1=1)"));
        x.tempo(60);
        x.ticks(100);
        Due.due("THE TICK", 102, x.count(0));
        Due.roll(x, 3, "a");
        x.tempo(600);
        Due.due("t is modulo 100", 53 + 2, phaseBy(x, 3, "ut(1=1)"));
        Due.due("those who are DONE are heard, too: 18 and 3 through 2", 53 + 10, phaseBy(x, 3, "ua(a=10)"));
        Due.due("s in a C", 53, phaseBy(x, 3, "u9(s=1)"));

        ClockChoir z = one(0, 5, "abcd");
        z.singer(1, 0, 0, 0, 5);
        Due.roll(z, 1, "abcd");
        Due.due("0 is heard by 1", 60 + 1, phaseBy(z, 1, "un(1=1)"));

        // a is rounded toward 0 ahead of his own AT being taken off.
        ClockChoir y = new ClockChoir();
        y.singer(0, 0, 0, 0, 1);
        y.singer(1, 20, 0, 0, 1);
        y.singer(2, 0, 0, 3, 1);
        Due.roll(y, 0, "(abc)x9");
        Due.roll(y, 1, "a");
        y.tempo(60);
        y.ticks(3);
        y.tempo(600);
        Due.due("1 and 0 through 2 is 0, less 3", 60 + 10 - 3, phaseBy(y, 0, "u10+a(1=1)"));
    }

    private static void reckoning() {
        ClockChoir x = one(0, 5, "abc");
        x.tempo(600);
        String[] sums = {"10-3-2", "2+3*4", "20/3*3", "20%7*2", "[2+3]*4", "7-[2-9]", "[0-7]/2+10", "[0-7]%3+10",
            "100/7%5", "2*[3+[4-1]*2]", "00012", "99999*99999%1000", "[99999*99999*2+1]%50+50",
            "[0-32768*65535-32768]/[0-1]%60+60", "[0-32768*65535-32768]%[0-1]+3"};
        for (String sum : sums) {
            int due = Math.max(0, Math.min(60, sumOf(sum)));
            Due.due("u" + sum, 60 + due, phaseBy(x, 0, "u" + sum + "(1=1)"));
        }
        String[] tests = {"1<2", "2<2", "2>1", "2>2", "2=2", "2=3", "!2=2", "!2=3", "!!2=2", "1=1&1=2", "1=1|1=2",
            "1=2|1=1&1=1", "1=1&1=1&1=2|1=2", "!1=2&1=1", "!(1=2|1=1)", "(1=2|1=1)&(1=1)", "!1=1|1=1", "1=2&1=1|1=1",
            "0-1<0", "99999*99999>0", "(((1=1)))", "!(1=1&1=2)&!1=2", "1+1=2*1", "1=2&1=2|1=2&1=1|!1=1"};
        int[] holds = {1, 0, 1, 0, 1, 0, 0, 1, 1, 0, 1, 1, 0, 1, 0, 1, 1, 1, 1, 1, 1, 1, 1, 0};
        for (int k = 0; k < tests.length; k++) {
            Due.due("C " + tests[k], 60 + 5 * holds[k], phaseBy(x, 0, "u5(" + tests[k] + ")"));
        }
        Due.due("many TESTS, the last holds", 65, phaseBy(x, 0, "u5(" + "2>1&1<2&".repeat(28) + "3=3)"));
        Due.due("many TESTS, the last does not hold", 60, phaseBy(x, 0, "u5(" + "2>1&1<2&".repeat(28) + "3=4)"));
        Due.due("many PARTS, the last holds", 65, phaseBy(x, 0, "u5(" + "2<1|1>2|".repeat(28) + "3=3)"));
        Due.due("many PARTS, none holds", 60, phaseBy(x, 0, "u5(" + "2<1|1>2|".repeat(28) + "3=4)"));
        String deep = "1+2*[1+2*[1+2*[1+2*[1+2*1]]]]";
        Due.due("deep on both sides", 65, phaseBy(x, 0, "u5(" + deep + "=" + deep + ")"));
        Due.due("deep on both sides", 60, phaseBy(x, 0, "u5(" + deep + "=1+" + deep + ")"));
        Due.due("deep ahead of the (", 60 + 127 % 50, phaseBy(x, 0, "u1+2*[1+2*[1+2*[1+2*[1+2*[1+2*1]]]]]%50(1=1)"));
    }

    private static int sumOf(String sum) {
        switch (sum) {
            case "10-3-2":
                return 5;
            case "2+3*4":
                return 14;
            case "20/3*3":
                return 18;
            case "20%7*2":
                return 12;
            case "[2+3]*4":
                return 20;
            case "7-[2-9]":
                return 14;
            case "[0-7]/2+10":
                return 7;
            case "[0-7]%3+10":
                return 9;
            case "100/7%5":
                return 4;
            case "2*[3+[4-1]*2]":
                return 18;
            case "00012":
                return 12;
            case "99999*99999%1000":
                return 99999 * 99999 % 1000;
            case "[99999*99999*2+1]%50+50":
                return (99999 * 99999 * 2 + 1) % 50 + 50;
            case "[0-32768*65535-32768]/[0-1]%60+60":
                return Integer.MIN_VALUE % 60 + 60;
            default:
                return 3;
        }
    }

    private static void refusedDivisions() {
        ClockChoir x = one(0, 5, "abc");
        x.tempo(600);
        Due.due("E by 0", 60, phaseBy(x, 0, "u5+1/0(1=1)"));
        Due.due("E modulo 0", 60, phaseBy(x, 0, "u5+1%0(1=1)"));
        Due.due("E that is refused is the E all the same", 60, phaseBy(x, 0, "u1/s(1=1);u9(1=1)"));
        Due.due("C by 0", 60, phaseBy(x, 0, "u5(1/0=0)"));
        Due.due("C by 0: the next RULE", 69, phaseBy(x, 0, "u5(1/0=0|1=1);u9(1=1)"));
        Due.due("! of what is refused", 60, phaseBy(x, 0, "u5(!1/0=0)"));
        Due.due("! around all that is refused", 60, phaseBy(x, 0, "u5(!(1=1&1%0=1))"));
        Due.due("behind a | that holds it is not asked", 65, phaseBy(x, 0, "u5(1=1|1/0=0)"));
        Due.due("behind an & that does not hold it is not asked", 65, phaseBy(x, 0, "u5(1=2&1/0=0|1=1)"));
        Due.due("behind an & that holds it is asked", 60, phaseBy(x, 0, "u5(1=1&1/0=0|1=1)"));
        Due.due("behind a | that does not hold it is asked", 60, phaseBy(x, 0, "u5(1=2|1/0=0|1=1)"));
        Due.due("in a bracket that matters no more", 65, phaseBy(x, 0, "u5(!(1=2&(1=1|1/0=1)))"));
        Due.due("on the right", 60, phaseBy(x, 0, "u5(0=1/0)"));
        Due.due("0 times what is refused", 60, phaseBy(x, 0, "u5(0*[1/0]=0)"));
        Due.law(x, "x(1/0=0|1=1)");
        Due.due("x that is refused", 60, x.tried(1, 20));
        Due.law(x, "x(1/0=0|1=1);x(1=1)");
        Due.due("another x", 0, x.tried(1, 20));
    }

    private static void silence() {
        ClockChoir x = one(0, 5, "abc");
        x.singer(1, 0, 1, 0, 5);
        Due.roll(x, 1, "abc");
        x.tempo(600);
        Due.law(x, "x(s=1);u60(s=1)");
        Due.due("0 sings", 60, x.tried(1, 20));
        Due.due("1 is silent", 0, x.tried(9, 21));
        Due.law(x, "x(1=2);x(s=0&t>0);x(s=0&t=0)");
        Due.due("any will do", 0, x.tried(9, 20));
        Due.due("1 sings", 540, x.tried(9, 21));
        x.ticks(1);
        Due.due("who is silent draws nothing", 25173 + 13849, x.count(8));

        ClockChoir y = one(0, 5, "abc");
        y.tempo(600);
        y.ticks(9);
        y.tempo(60);
        Due.law(y, "x(1=1)");
        Due.due("who is silent sings nothing, whatever his PHASE", 0, y.tried(9, 0));
        Due.due("his PHASE stays", 540, y.tried(9, 20));
        Due.law(y, "c10(1=1)");
        Due.due("who coughs sings nothing, whatever his PHASE", 0, y.tried(9, 0));
        Due.due("his PHASE stays", 540, y.tried(9, 20));
    }

    private static void coughs() {
        ClockChoir x = one(0, 5, "(abcdefg.)x7");
        x.tempo(600);
        Due.law(x, "c5(1=1)");
        int state = 1;
        int coughs = 0;
        for (int n = 1; n <= 240; n++) {
            state = (25173 * state + 13849) % 65536;
            if (state % 10 < 5) {
                coughs++;
            }
            Due.due("coughs in " + n, coughs, x.tried(n, 2));
        }
        Due.due("X is as before", 1, x.count(8));
        x.ticks(1);
        Due.due("X behind a TICK", 39022, x.count(8));
        Due.due("39022 is 2 modulo 10: a cough", 0, x.singerIs(0, 4));
        Due.law(x, "c10(1=1)");
        Due.due("all cough", 240, x.tried(240, 2));
        Due.due("and do nothing more", 0, x.tried(240, 20));
        Due.law(x, "c0(1=1)");
        Due.due("nobody coughs", 0, x.tried(240, 2));
        Due.law(x, "u0(1=1)");
        x.ticks(1);
        Due.due("without a c there is a DRAW, too", (int) ((25173L * 39022 + 13849) % 65536), x.count(8));
        Due.due("seed(65535)", true, x.seed(65535));
        x.ticks(1);
        Due.due("X from 65535 on", (int) ((25173L * 65535 + 13849) % 65536), x.count(8));

        // By numbers: each one's DRAW behind the one of the lower ones.
        ClockChoir y = one(0, 5, "a");
        y.singer(5, 0, 0, 0, 5);
        Due.roll(y, 5, "a");
        Due.law(y, "c3(1=1)");
        Due.due("0 coughs by 2", 0, y.tried(1, 20));
        Due.due("5 does not by 7", 60, y.tried(1, 25));
        y.ticks(1);
        Due.due("X behind two DRAWS", (int) ((25173L * 39022 + 13849) % 65536), y.count(8));
        Due.due("that is 7 modulo 10", 7, y.count(8) % 10);
    }

    private static void lastTick() {
        ClockChoir x = new ClockChoir();
        for (int k = 0; k < 416; k++) {
            x.ticks(240);
        }
        Due.due("THE TICK", 99840, x.count(0));
        x.singer(0, 0, 0, 0, 5);
        x.singer(1, 20, 0, 0, 5);
        x.tempo(600);
        x.ticks(158);
        Due.roll(x, 0, "abc");
        Due.roll(x, 1, "abc");
        Due.due("THE TICK", 99998, x.count(0));
        Due.due("tried(240, 20)", 60, x.tried(240, 20));
        Due.due("together: as many as can", 1, x.together(0, 1, 240));
        Due.due("ticks(240)", 0, x.ticks(240));
        Due.due("THE TICK", 99999, x.count(0));
        Due.due("one went by", 60, x.singerIs(0, 4));
        Due.due("none goes by", 0, x.ticks(1));
        Due.due("none goes by", 60, x.singerIs(0, 4));
        Due.due("tried: none", 60, x.tried(240, 20));
        Due.due("together: none", 0, x.together(0, 1, 240));
        Due.due("end: not in these", -2, x.end(240, 0));
        Due.due("spread: none", 0, x.spread(240));
        Due.due("firstCome: nobody", -2, x.firstCome(240, 0));
        Due.due("keep()", 99999, x.keep());
    }

    private static void theEnd() {
        ClockChoir x = new ClockChoir();
        Due.due("nobody is told", -1, x.end(5, 0));
        Due.due("nobody is told", -1, x.end(5, 1));
        Due.roll(x, 3, "ab");
        Due.roll(x, 5, "c2");
        Due.roll(x, 6, "a");
        x.tempo(60);
        x.singer(3, 0, 0, 0, 1);
        x.singer(5, 0, 0, 0, 1);
        x.singer(6, 0, 0, 0, 1);
        x.singer(7, 0, 0, 0, 1);
        Due.due("end(9, 0)", 2, x.end(9, 0));
        Due.due("of one TICK the highest", 5, x.end(9, 1));
        Due.due("end(2, 0)", 2, x.end(2, 0));
        Due.due("end(1, 0)", -2, x.end(1, 0));
        Due.due("end(1, 1)", -2, x.end(1, 1));
        x.ticks(1);
        Due.due("end(9, 0) from here", 1, x.end(9, 0));
        x.ticks(1);
        Due.due("all are DONE", 0, x.end(9, 0));
        Due.due("all are DONE", -2, x.end(9, 1));
        x.singer(3, 20, 0, 0, 1);
        x.singer(5, -20, 0, 0, 1);
        Due.due("the slower one", 3, x.end(9, 0));
        Due.due("the slower one", 5, x.end(9, 1));
        x.singer(3, -20, 0, 0, 1);
        x.singer(5, 20, 0, 0, 1);
        Due.due("the slower one is the lower one", 3, x.end(9, 1));
        Due.law(x, "x(1=1)");
        Due.due("never", -2, x.end(240, 0));

        ClockChoir y = one(0, 1, "abc");
        y.singer(7, 0, 0, 0, 1);
        Due.roll(y, 7, "ab");
        Due.due("0 is last", 0, y.end(9, 1));
        Due.roll(y, 7, "abc");
        Due.due("7 is last", 7, y.end(9, 1));
    }

    private static void spread() {
        ClockChoir x = one(0, 1, "abcdefg");
        x.tempo(60);
        Due.due("fewer than two", 0, x.spread(9));
        x.singer(1, -20, 0, 0, 1);
        Due.due("one is DONE", 0, x.spread(9));
        Due.roll(x, 1, "ab");
        x.tempo(600);
        Due.due("both at the beginning", 0, x.spread(9));
        x.tempo(60);
        Due.roll(x, 1, "ab");
        // ATs behind each TICK: 1 0, 2 1, 3 2 (1 is DONE then).
        Due.due("spread(1)", 1, x.spread(1));
        Due.due("spread(9)", 1, x.spread(9));
        Due.roll(x, 1, "abcdefg");
        // 1 0, 2 1, 3 2, 4 2, 5 3, 6 4, then 0 is DONE.
        Due.due("spread(3)", 1, x.spread(3));
        Due.due("spread(4)", 2, x.spread(4));
        Due.due("spread(240)", 2, x.spread(240));
        x.ticks(6);
        x.singer(1, 20, 0, 0, 1);
        // Now 6 apart, but at the end of each TICK that comes 0 is DONE.
        Due.due("not as it is now", 0, x.spread(9));
        x.singer(2, 0, 0, 0, 1);
        Due.roll(x, 2, "(abc)x9");
        Due.due("two who go on", 1, x.spread(9));
    }

    private static void firstCome() {
        ClockChoir x = new ClockChoir();
        Due.due("nobody", -2, x.firstCome(240, 0));
        x.tempo(60);
        for (int i = 2; i < 5; i++) {
            x.singer(i, 0, 0, 0, 1);
            Due.roll(x, i, i == 2 ? "...a^b" : ".a^b");
        }
        Due.due("of one TICK the lowest", 3, x.firstCome(9, 0));
        Due.due("behind two", 2, x.firstCome(9, 1));
        Due.due("behind two of two", 2, x.firstCome(2, 1));
        Due.due("not in one", -2, x.firstCome(1, 0));
        Due.due("not in one", -2, x.firstCome(1, 1));
        x.ticks(2);
        Due.due("now", 0, x.firstCome(9, 1));
        Due.due("now", 3, x.firstCome(9, 0));
        Due.roll(x, 2, "a^");
        Due.roll(x, 3, "a^");
        Due.roll(x, 4, "a^");
        Due.due("on the last BEAT nobody waits", -2, x.firstCome(9, 0));
    }

    private static void alone() {
        ClockChoir x = one(0, 1, "a^b^c");
        x.singer(1, 7, 0, 0, 1);
        Due.due("alone(0)", 6, x.alone(0));
        Due.due("no ROLL", 0, x.alone(1));
        Due.due("alone(2)", -1, x.alone(2));
        Due.due("alone(-1)", -1, x.alone(-1));
        Due.due("alone(8)", -1, x.alone(8));
        Due.roll(x, 1, "a9");
        Due.due("1080 by 67", 17, x.alone(1));
        x.ticks(1);
        Due.law(x, "x(1=1)");
        Due.due("from its beginning, no law", 17, x.alone(1));
        x.tempo(600);
        Due.due("5400 by 67", 81, x.alone(1));
        x.singer(1, -20, 0, 0, 1);
        Due.roll(x, 1, "(a9.)x6");
        Due.due("36000 by 40", 900, x.alone(1));
        x.singer(1, 7, 0, 0, 1);
        Due.roll(x, 1, "a");
        x.tempo(68);
        Due.due("68 by 67", 2, x.alone(1));
        x.tempo(67);
        Due.due("67 by 67", 1, x.alone(1));
    }

    private static void together() {
        ClockChoir x = one(0, 1, "abcd");
        x.singer(1, -20, 0, 0, 1);
        Due.roll(x, 1, "abcd");
        x.tempo(60);
        // ATs: 1 0, 2 1, 3 2, 4 2, 4 3, 4 4, 4 4 ...
        Due.due("together(0, 1, 5)", 0, x.together(0, 1, 5));
        Due.due("together(0, 1, 6)", 1, x.together(0, 1, 6));
        Due.due("together(1, 0, 9)", 4, x.together(1, 0, 9));
        Due.due("together(0, 0, 9)", -1, x.together(0, 0, 9));
        Due.due("together(0, 2, 9)", -1, x.together(0, 2, 9));
        Due.due("together(2, 0, 9)", -1, x.together(2, 0, 9));
        Due.due("together(0, 8, 9)", -1, x.together(0, 8, 9));
        Due.due("together(-1, 0, 9)", -1, x.together(-1, 0, 9));
        Due.due("together(0, 1, 0)", -1, x.together(0, 1, 0));
        Due.due("together(0, 1, 241)", -1, x.together(0, 1, 241));
        Due.due("nothing is changed", 0, x.singerIs(0, 3));
    }
}
