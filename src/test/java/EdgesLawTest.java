/** Edges of THE LAW as it is asked: bounds of each worth, letters, 32 bits, what is REFUSED, as much as matters. */
public final class EdgesLawTest {
    public static void main(String[] args) {
        hurryFrom0To60();
        slowDownFrom0To60();
        moreByNoLessThan0();
        breathCostFrom0To20();
        coughsFrom0To10();
        noRuleHolds();
        theFirstRuleThatHolds();
        withoutAnXNoneIsSilent();
        anyXWillDo();
        ofXOnlyC();
        singerAndDrift();
        atAndNote();
        ahead();
        hearsNobody();
        howManyHeHears();
        breathLeft();
        tickModulo100();
        askedAsWhenTheTickBegan();
        askedWithX();
        fiveDigits();
        thirtyTwoBits();
        leastNumberDivided();
        fromTheLeftOn();
        comparisons();
        dividedByNought();
        refusedWorthIsNought();
        asMuchAsMatters();
        partsAndTests();
        asManyAsFit();
        Due.finish("EdgesLawTest");
    }

    private static ClockChoir one(int drift, int lungs, String roll) {
        ClockChoir x = new ClockChoir();
        x.singer(0, drift, 0, 0, lungs);
        Due.roll(x, 0, roll);
        x.tempo(600);
        return x;
    }

    /** By how much his PHASE is more in the next TICK. */
    private static int more(ClockChoir x, int i, String law) {
        Due.due("law " + law, true, Due.law(x, law) > 0);
        return x.tried(1, 20 + i) - x.singerIs(i, 4);
    }

    private static void dueHolds(ClockChoir x, int i, String test, boolean due) {
        Due.due("(" + test + ") of " + i, 60 + x.drift(i) + (due ? 1 : 0), more(x, i, "u1(" + test + ")"));
    }

    private static final String[] WORTHS = {"0", "1", "59", "60", "61", "99999", "0-1", "0-60", "0-99999", "32768*65536",
        "65535*65537+61", "32768*65535+32767", "32768*65535+32768", "[0-9]/2", "[0-1]/2+60"};
    private static final int[] WORTH = {0, 1, 59, 60, 61, 99999, -1, -60, -99999, Integer.MIN_VALUE,
        60, Integer.MAX_VALUE, Integer.MIN_VALUE, -4, 60};

    private static void hurryFrom0To60() {
        Due.by("u by how much one hurries (0 to 60)");
        ClockChoir x = one(0, 1, "a");
        for (int k = 0; k < WORTHS.length; k++) {
            Due.due("u" + WORTHS[k], 60 + Math.max(0, Math.min(60, WORTH[k])), more(x, 0, "u" + WORTHS[k] + "(1=1)"));
        }
    }

    private static void slowDownFrom0To60() {
        Due.by("v by how much one slows down (0 to 60)");
        ClockChoir x = one(20, 1, "a");
        for (int k = 0; k < WORTHS.length; k++) {
            Due.due("v" + WORTHS[k], 80 - Math.max(0, Math.min(60, WORTH[k])), more(x, 0, "v" + WORTHS[k] + "(1=1)"));
        }
    }

    private static void moreByNoLessThan0() {
        Due.by("PHASE is more by 60 and DRIFT and u less v (0 at least");
        ClockChoir x = one(-20, 1, "a");
        x.ticks(3);
        Due.due("PHASE", 120, x.singerIs(0, 4));
        int[] slow = {0, 1, 39, 40, 41, 59, 60};
        for (int v : slow) {
            Due.due("40 less " + v, Math.max(0, 40 - v), more(x, 0, "v" + v + "(1=1)"));
            Due.due("41 less " + v, Math.max(0, 41 - v), more(x, 0, "v" + v + "(1=1);u1(1=1)"));
        }
        Due.due("both at their most", 40, more(x, 0, "u60(1=1);v60(1=1)"));
        x.singer(0, 20, 0, 0, 1);
        Due.due("the most there is", 140, more(x, 0, "u99(1=1)"));
        Due.due("both at their most", 80, more(x, 0, "v60(1=1);u60(1=1)"));
    }

    private static void breathCostFrom0To20() {
        Due.by("b BREATH that a BEAT costs (0 to 20)");
        ClockChoir x = one(0, 20, "ab");
        x.tempo(60);
        for (int k = 0; k < WORTHS.length; k++) {
            Due.law(x, "b" + WORTHS[k] + "(1=1)");
            Due.due("b" + WORTHS[k], 20 - Math.max(0, Math.min(20, WORTH[k])), x.tried(1, 30));
        }
        for (int b = 17; b <= 22; b++) {
            Due.law(x, "b" + b + "(1=1)");
            Due.due("b" + b, Math.max(0, 20 - b), x.tried(1, 30));
            Due.due("MISSED in two", b >= 20 ? 1 : 0, x.tried(2, 1));
        }
    }

    private static int drawFrom(int state) {
        return (int) ((25173L * state + 13849) % 65536);
    }

    private static void coughsFrom0To10() {
        Due.by("c tenths that one coughs (0 to 10)");
        for (int draw = 0; draw < 10; draw++) {
            int seed = 0;
            while (drawFrom(seed) % 10 != draw) {
                seed++;
            }
            ClockChoir x = one(0, 1, "a");
            Due.due("seed", true, x.seed(seed));
            for (int c = 0; c <= 12; c++) {
                Due.law(x, "c" + c + "(1=1)");
                Due.due("DRAW " + draw + " below " + c, draw < c ? 1 : 0, x.tried(1, 2));
                Due.due("PHASE", draw < c ? 0 : 60, x.tried(1, 20));
            }
            Due.law(x, "c0-1(1=1)");
            Due.due("DRAW " + draw + " and c below 0", 0, x.tried(1, 2));
        }
    }

    private static void noRuleHolds() {
        Due.by("of the first RULE of u, v, b, c whose C holds the E (beyond its bounds the bound; none: 0)");
        ClockChoir x = one(0, 5, "ab");
        x.tempo(60);
        Due.law(x, "u9(1=2);v9(1=2);b9(1=2);c9(1=2);x(1=2)");
        Due.due("PHASE", 0, x.tried(1, 20));
        Due.due("BREATH", 5, x.tried(1, 30));
        Due.due("coughs", 0, x.tried(1, 2));
        Due.due("BEATS", 1, x.tried(1, 0));
        ClockChoir y = one(0, 5, "ab");
        y.tempo(60);
        Due.due("no LAW at all: PHASE", 0, y.tried(1, 20));
        Due.due("no LAW at all: BREATH", 5, y.tried(1, 30));
        Due.due("no LAW at all: coughs", 0, y.tried(240, 2));
    }

    private static void theFirstRuleThatHolds() {
        Due.by("of the first RULE of u, v, b, c whose C holds the E");
        ClockChoir x = one(0, 20, "ab");
        Due.due("the first", 61, more(x, 0, "u1(1=1);u2(1=1);u3(1=1)"));
        Due.due("the second", 62, more(x, 0, "u1(1=2);u2(1=1);u3(1=1)"));
        Due.due("the last of sixteen", 76, more(x, 0, "u1(s=1);".repeat(15) + "u16(s=0)"));
        Due.due("those of other letters between", 63, more(x, 0, "v1(s=1);b2(s=0);u3(s=0);c0(s=0);u9(s=0)"));
        Due.due("of v its own", 57, more(x, 0, "u9(s=1);v3(s=0);u0(s=0);v9(s=0)"));
        Due.due("a first one of 0", 60, more(x, 0, "u0(s=0);u9(s=0)"));
    }

    private static void withoutAnXNoneIsSilent() {
        Due.by("x one is silent in a TICK (any will do; without an x in THE LAW none is)");
        ClockChoir x = one(0, 20, "ab");
        Due.due("no x", 60, more(x, 0, "b1(1=1)"));
        Due.due("an x", 0, more(x, 0, "x(1=1)"));
        Due.due("an x that does not hold", 60, more(x, 0, "x(1=2)"));
    }

    private static void anyXWillDo() {
        Due.by("any will do");
        ClockChoir x = one(0, 20, "ab");
        Due.due("the first", 0, more(x, 0, "x(1=1);x(1=2)"));
        Due.due("the last", 0, more(x, 0, "x(1=2);u60(1=1);x(1=1)"));
        Due.due("the last of sixteen", 0, more(x, 0, "x(s=1);".repeat(15) + "x(s=0)"));
        Due.due("none of sixteen", 60, more(x, 0, "x(s=1);".repeat(15) + "x(s=2)"));
    }

    private static void ofXOnlyC() {
        Due.by("a letter, E, and (C), of x only (C)");
        ClockChoir x = one(0, 20, "ab");
        Due.due("x1(1=1)", -1001, Due.law(x, "x1(1=1)"));
        Due.due("xs(1=1)", -1001, Due.law(x, "xs(1=1)"));
        Due.due("u(1=1)", -1001, Due.law(x, "u(1=1)"));
    }

    private static void singerAndDrift() {
        Due.by("s the SINGER, d DRIFT (below 0, too)");
        ClockChoir x = new ClockChoir();
        x.tempo(600);
        for (int i = 0; i < 8; i++) {
            int drift = i < 4 ? -20 + i : 13 + i;
            x.singer(i, drift, 0, 0, 1);
            Due.roll(x, i, "a");
            dueHolds(x, i, "s=" + i, true);
            dueHolds(x, i, "!s=" + i, false);
            dueHolds(x, i, drift < 0 ? "d=0-" + -drift : "d=" + drift, true);
        }
    }

    private static void atAndNote() {
        Due.by("p AT");
        ClockChoir x = one(0, 1, "(abcdefg.)x7(abcd)");
        x.tempo(60);
        for (int at = 0; at < 60; at++) {
            x.tempo(600);
            if (at < 9 || at > 56) {
                Due.by("p AT");
                dueHolds(x, 0, "p=" + at, true);
                Due.by("k the NOTE that comes next (0: a rest)");
                dueHolds(x, 0, "k=" + (at % 8 + 1) % 8, true);
            }
            x.tempo(60);
            Due.law(x, "x(1=2)");
            x.ticks(1);
        }
        Due.due("DONE", 1, x.singerIs(0, 8));
    }

    /** Brings each one's AT as far as that, in 60 TICKS. */
    private static void singTo(ClockChoir x, int... ats) {
        StringBuilder law = new StringBuilder("x(1=2)");
        for (int i = 0; i < ats.length; i++) {
            law.append(";x(s=").append(i).append("&p=").append(ats[i]).append(")");
        }
        x.tempo(60);
        Due.law(x, law.toString());
        x.ticks(60);
        x.tempo(600);
        for (int i = 0; i < ats.length; i++) {
            Due.due("AT of " + i, ats[i], x.singerIs(i, 3));
        }
    }

    private static void ahead() {
        Due.by("a how far those he HEARS are ahead (their ATs added up, through how many they are, rounded toward 0, less his own; below 0: behind; he hears nobody: 0)");
        int[][] ats = {{2, 1, 0}, {0, 1, 2}, {5, 5, 5}, {3, 0, 0}, {0, 3, 4}, {59, 0, 1}, {0, 60, 60}, {0, 60, 59}};
        int[] due = {-2, 1, 0, -3, 3, -59, 60, 59};
        for (int k = 0; k < ats.length; k++) {
            ClockChoir x = new ClockChoir();
            for (int i = 0; i < 3; i++) {
                x.singer(i, 0, i, 0, 1);
                Due.roll(x, i, "(a)x9".repeat(6) + "a6");
            }
            singTo(x, ats[k]);
            dueHolds(x, 0, "a=0" + (due[k] < 0 ? "" : "+") + due[k], true);
        }
    }

    private static void hearsNobody() {
        Due.by("he hears nobody: 0");
        ClockChoir x = new ClockChoir();
        for (int i = 0; i < 2; i++) {
            x.singer(i, 0, 5 * i, 0, 1);
            Due.roll(x, i, "abcdefg");
        }
        singTo(x, 4, 1);
        dueHolds(x, 0, "a=0-3", true);
        x.ears(5);
        dueHolds(x, 0, "a=0-3&n=1", true);
        x.ears(4);
        dueHolds(x, 0, "a=0&n=0&p=4", true);
        ClockChoir y = one(0, 1, "abcdefg");
        singTo(y, 5);
        dueHolds(y, 0, "a=0&n=0&p=5", true);
    }

    private static void howManyHeHears() {
        Due.by("n how many he HEARS");
        ClockChoir x = one(0, 1, "a");
        for (int i = 1; i < 8; i++) {
            dueHolds(x, 0, "n=" + (i - 1), true);
            x.singer(i, 0, 15, 0, 1);
        }
        dueHolds(x, 0, "n=7", true);
        x.ears(14);
        dueHolds(x, 0, "n=0", true);
    }

    private static void breathLeft() {
        Due.by("l BREATH left");
        ClockChoir x = one(0, 2, "abcd,e");
        int[] due = {2, 1, 0, 0, 2};
        for (int at = 0; at < due.length; at++) {
            x.tempo(600);
            dueHolds(x, 0, "l=" + due[at], true);
            x.tempo(60);
            Due.law(x, "b1(1=1)");
            x.ticks(1);
        }
    }

    private static void tickModulo100() {
        Due.by("t THE TICK modulo 100");
        ClockChoir x = one(0, 1, "a");
        int[] ticks = {0, 1, 98, 99, 100, 101, 199, 200, 240};
        for (int tick : ticks) {
            Due.law(x, "x(1=1)");
            if (tick > x.count(0)) {
                x.ticks(tick - x.count(0));
            }
            Due.due("THE TICK", tick, x.count(0));
            dueHolds(x, 0, "t=" + tick % 100, true);
        }
    }

    private static void askedAsWhenTheTickBegan() {
        Due.by("p and a by ATs as they were when the TICK began");
        ClockChoir x = new ClockChoir();
        x.tempo(60);
        for (int i = 0; i < 2; i++) {
            x.singer(i, 0, i, 0, 9);
            Due.roll(x, i, "abcdefg");
        }
        Due.law(x, "x(s=1&a>0)");
        Due.due("0 sings ahead of 1 in the same TICK", 1, x.tried(1, 11));
        Due.law(x, "x(s=1&a=0)");
        Due.due("in the first TICK 0 is not ahead yet", 0, x.tried(1, 11));
        Due.due("in the second one he is", 1, x.tried(2, 11));
        Due.by("asked then, l, k as they are then, p, a as ahead");
        ClockChoir y = one(0, 20, "abc");
        y.ticks(9);
        y.tempo(60);
        Due.law(y, "bk(p=0)");
        Due.due("k of each BEAT, p of none", 20 - 1 - 2 - 3, y.tried(1, 30));
        Due.law(y, "b1(l=20);b2(l=19);b5(l=17)");
        Due.due("l of each BEAT", 12, y.tried(1, 30));
        Due.law(y, "b9(p>0)");
        Due.due("p as when the TICK began", 20, y.tried(1, 30));
    }

    private static void askedWithX() {
        Due.by("u, v, c asked with x");
        // Two BEATS in a TICK: what u, v and c are is asked once, by BREATH and NOTE ahead of both.
        ClockChoir x = one(0, 9, "abcdefg");
        x.ticks(2);
        x.tempo(60);
        Due.law(x, "u30(l=9&k=1);u60(l<9);b1(1=1)");
        Due.due("BEATS of 120, 60 and 30", 3, x.tried(1, 0));
        Due.due("PHASE", 30, x.tried(1, 20));
        Due.law(x, "v30(l=9&k=1);v60(l<9);b1(1=1)");
        Due.due("BEATS of 120, 60 less 30", 2, x.tried(1, 0));
        Due.due("PHASE", 30, x.tried(1, 20));
        Due.law(x, "c10(l<9);b1(1=1)");
        Due.due("BEATS of 120 and 60", 3, x.tried(1, 0));
        Due.due("coughs", 0, x.tried(1, 2));
        Due.due("in the next TICK", 1, x.tried(2, 2));
        Due.law(x, "x(l<9);b1(1=1)");
        Due.due("BEATS of 120 and 60", 3, x.tried(9, 0));
    }

    private static void fiveDigits() {
        Due.by("a number of one to five digits");
        ClockChoir x = one(0, 1, "a");
        String[] right = {"0=00000", "1=00001", "99999=10*9999+9", "12345=12*1000+345", "09=9", "90000=9*10000"};
        for (String test : right) {
            dueHolds(x, 0, test, true);
        }
    }

    private static void thirtyTwoBits() {
        Due.by("All is reckoned with 32 bits, as the machine does");
        ClockChoir x = one(0, 1, "a");
        String[] tests = {
            "32768*65535+32767>0", "32768*65535+32768<0", "32768*65535+32767+1=0-32768*65536",
            "32768*65536<0", "65536*65536=0", "65536*65535<0", "46340*46340>0", "46341*46341<0",
            "99999*99999=14098*50000*2+65409", "0-32768*65535-32768<0", "0-32768*65535-32769>0",
            "32768*65536+32768*65536=0", "32768*65536-1>0", "65535*65537=0-1",
        };
        for (String test : tests) {
            dueHolds(x, 0, test, true);
        }
    }

    private static void leastNumberDivided() {
        Due.by("All is reckoned with 32 bits, as the machine does");
        ClockChoir x = one(0, 1, "a");
        String least = "[32768*65536]";
        dueHolds(x, 0, least + "/[0-1]=" + least, true);
        dueHolds(x, 0, least + "%[0-1]=0", true);
        dueHolds(x, 0, least + "/1=" + least, true);
        dueHolds(x, 0, least + "%2=0", true);
        dueHolds(x, 0, least + "/2=0-32768*32768", true);
        dueHolds(x, 0, "[0-7]/2=0-3", true);
        dueHolds(x, 0, "7/[0-2]=0-3", true);
        dueHolds(x, 0, "[0-7]%2=0-1", true);
        dueHolds(x, 0, "7%[0-2]=1", true);
        dueHolds(x, 0, "0/5=0&0%5=0", true);
    }

    private static void fromTheLeftOn() {
        Due.by("FACTORS with one of * / % between two; from the left on");
        ClockChoir x = one(0, 1, "a");
        String[] tests = {"9-4-3=2", "9-4+3=8", "7/2*2=6", "2*7/2=7", "7%4*2=6", "2*7%4=2", "100/10/5=2", "17%10%4=3",
            "2+3*4=14", "3*4+2=14", "2-3*4+20=10", "[2+3]*4=20", "9-[4-3]=8", "100/[10/5]=50", "9-4*2%3=7"};
        for (String test : tests) {
            dueHolds(x, 0, test, true);
        }
    }

    private static void comparisons() {
        Due.by("E, one of < > =, and E");
        String[] numbers = {"[32768*65536]", "0-1", "0", "1", "32768*65535+32767"};
        for (int k = 0; k < numbers.length; k++) {
            ClockChoir x = one(0, 1, "a");
            for (int m = 0; m < numbers.length; m++) {
                dueHolds(x, 0, numbers[k] + "<" + numbers[m], k < m);
                dueHolds(x, 0, numbers[k] + ">" + numbers[m], k > m);
                dueHolds(x, 0, numbers[k] + "=" + numbers[m], k == m);
            }
        }
    }

    private static void dividedByNought() {
        Due.by("what is divided by 0 is REFUSED: then the whole C of the RULE does not hold, the E of it is 0.");
        ClockChoir x = one(0, 1, "a");
        String[] refused = {"1/0=0", "1%0=0", "0/0=0", "0%0=0", "1/0=1/0", "!1/0=0", "!!1/0=0", "!(1/0=0)", "1/0<1", "1/0>0",
            "0=1/0", "0=1%0", "[1/0]*0=0", "0*[1/0]=0", "1/[1-1]=0", "1/s=0", "1%s=0", "1/0=0|1=1", "1/0=0&1=1",
            "!(1/0=0|1=1)", "(1/0=0)|1=1", "!(1=1&1/0=0)", "1/[65536*65536]=0"};
        for (String test : refused) {
            dueHolds(x, 0, test, false);
            Due.due("the RULE behind it", 67, more(x, 0, "u1(" + test + ");u7(1=1)"));
            Due.due("an x", 60, more(x, 0, "x(" + test + ")"));
        }
        ClockChoir y = one(0, 1, "a");
        dueHolds(y, 0, "1/1=1", true);
        dueHolds(y, 0, "1%1=0", true);
        dueHolds(y, 0, "1/[0-1]=0-1", true);
    }

    private static void refusedWorthIsNought() {
        Due.by("the E of it is 0");
        ClockChoir x = one(20, 5, "ab");
        for (String worth : new String[] {"1/0", "1%0", "9+1/0", "9+1%s", "[1/0]+9", "9-1/[1-1]"}) {
            Due.due("u", 80, more(x, 0, "u" + worth + "(1=1);u9(1=1)"));
            Due.due("v", 80, more(x, 0, "v" + worth + "(1=1);v9(1=1)"));
            Due.law(x, "c" + worth + "(1=1);c10(1=1)");
            Due.due("c", 0, x.tried(1, 2));
            Due.law(x, "b" + worth + "(1=1);b5(1=1)");
            x.tempo(60);
            Due.due("b", 5, x.tried(1, 30));
            x.tempo(600);
        }
        Due.due("an E whose C does not hold is not asked", 89, more(x, 0, "u1/0(1=2);u9(1=1)"));
    }

    private static void asMuchAsMatters() {
        Due.by("Of a C as much is asked, from the left, as matters.");
        ClockChoir x = one(0, 1, "a");
        dueHolds(x, 0, "1=1|1/0=0", true);
        dueHolds(x, 0, "1=2|1=1|1/0=0", true);
        dueHolds(x, 0, "1=2&1/0=0|1=1", true);
        dueHolds(x, 0, "1=1&1=2&1/0=0|1=1", true);
        dueHolds(x, 0, "1=1&1=1|1/0=0&1=1", true);
        dueHolds(x, 0, "!(1=2&1/0=0)", true);
        dueHolds(x, 0, "!(1=1|1/0=0)", false);
        dueHolds(x, 0, "!(1=1|1/0=0)|1=1", true);
        dueHolds(x, 0, "(1=1|1/0=0)&1=1", true);
        dueHolds(x, 0, "(1=2&1/0=0)|1=1", true);
        dueHolds(x, 0, "(1=2&(1=1|1/0=0))|(1=1)", true);
        dueHolds(x, 0, "1=2|1/0=0", false);
        dueHolds(x, 0, "1=1&1/0=0|1=1", false);
        dueHolds(x, 0, "1=2&1=1|1/0=0|1=1", false);
        dueHolds(x, 0, "(1=1|1/0=0)&1/0=0|1=1", false);
    }

    private static void asManyAsFit() {
        Due.by("a TEXT of at most 240 bytes");
        ClockChoir x = one(0, 1, "a");
        for (String sign : new String[] {"<", ">", "="}) {
            String yes = sign.equals("<") ? "0<1" : sign.equals(">") ? "1>0" : "1=1";
            String no = sign.equals("<") ? "1<0" : sign.equals(">") ? "0>1" : "0=1";
            dueHolds(x, 0, (yes + "&").repeat(57) + yes, true);
            dueHolds(x, 0, (yes + "&").repeat(57) + no, false);
            dueHolds(x, 0, (no + "|").repeat(57) + yes, true);
            dueHolds(x, 0, (no + "|").repeat(57) + no, false);
        }
        dueHolds(x, 0, "1+".repeat(114) + "1=115", true);
        dueHolds(x, 0, "1*".repeat(113) + "7*1=7", true);
        dueHolds(x, 0, "115=" + "1+".repeat(114) + "1", true);
        String deep = "1+2*[1+2*[1+2*[1+2*[1+2*1]]]]";
        dueHolds(x, 0, deep + "=63&63=" + deep + "&" + deep + "=" + deep, true);
        Due.due("the deepest E", 60 + 27, more(x, 0, "u1+2*[1+2*[1+2*[1+2*[1+2*[1+2*[1+2*1]]]]]]-228(1=1)"));
    }

    private static void partsAndTests() {
        Due.by("C: PARTS with a | between two, one of which must hold; a PART: TESTS with an & between two, all of which must");
        for (int bits = 0; bits < 16; bits++) {
            ClockChoir x = one(0, 1, "a");
            String[] t = new String[4];
            boolean[] is = new boolean[4];
            for (int k = 0; k < 4; k++) {
                is[k] = (bits >> k & 1) != 0;
                t[k] = is[k] ? "0=0" : "0=1";
            }
            dueHolds(x, 0, t[0] + "&" + t[1] + "|" + t[2] + "&" + t[3], is[0] && is[1] || is[2] && is[3]);
            dueHolds(x, 0, t[0] + "|" + t[1] + "&" + t[2] + "|" + t[3], is[0] || is[1] && is[2] || is[3]);
            dueHolds(x, 0, "(" + t[0] + "|" + t[1] + ")&(" + t[2] + "|" + t[3] + ")", (is[0] || is[1]) && (is[2] || is[3]));
            dueHolds(x, 0, "!" + t[0] + "&" + t[1] + "|!(" + t[2] + "|" + t[3] + ")", !is[0] && is[1] || !(is[2] || is[3]));
        }
        for (int bits = 0; bits < 16; bits++) {
            ClockChoir x = one(0, 1, "a");
            String t = "";
            String either = "";
            for (int k = 0; k < 4; k++) {
                String test = (bits >> k & 1) != 0 ? "0=0" : "0=1";
                t += (k == 0 ? "" : "&") + test;
                either += (k == 0 ? "" : "|") + test;
            }
            dueHolds(x, 0, t, bits == 15);
            dueHolds(x, 0, either, bits != 0);
            dueHolds(x, 0, t + "|0=1", bits == 15);
            dueHolds(x, 0, t + "|0=0", true);
            dueHolds(x, 0, "!(" + t + ")", bits != 15);
            dueHolds(x, 0, "!(" + either + ")", bits == 0);
            dueHolds(x, 0, "(" + either + ")&0=1", false);
            dueHolds(x, 0, "(" + either + ")&0=0", bits != 0);
        }
        Due.by("a TEST: !TEST, (C), or E");
        ClockChoir x = one(0, 1, "a");
        dueHolds(x, 0, "!!!!!0=1", true);
        dueHolds(x, 0, "!!!!0=1", false);
        dueHolds(x, 0, "(((((0=0)))))", true);
    }
}
