/** Promises 2 to 8: singers, ears, tempo, anew, the tape, laws and rolls as texts with FAULTS. */
public final class TellingTest {
    public static void main(String[] args) {
        singers();
        hearing();
        tempos();
        anew();
        tape();
        rolls();
        rollFaults();
        laws();
        lawFaults();
        Due.finish("TellingTest");
    }

    private static void singers() {
        ClockChoir x = new ClockChoir();
        int[][] wrong = {
            {-1, 0, 0, 0, 1}, {8, 0, 0, 0, 1}, {0, -21, 0, 0, 1}, {0, 21, 0, 0, 1}, {0, 0, -1, 0, 1}, {0, 0, 16, 0, 1},
            {0, 0, 0, -1, 1}, {0, 0, 0, 4, 1}, {0, 0, 0, 0, 0}, {0, 0, 0, 0, 21},
            {Integer.MIN_VALUE, 0, 0, 0, 1}, {Integer.MAX_VALUE, 0, 0, 0, 1}, {0, Integer.MIN_VALUE, 0, 0, 1},
        };
        for (int[] w : wrong) {
            Due.due("a wrong singer", false, x.singer(w[0], w[1], w[2], w[3], w[4]));
        }
        Due.due("count(1): nobody", 0, x.count(1));
        Due.due("singer 0", true, x.singer(0, -20, 0, 0, 1));
        Due.due("singer 7", true, x.singer(7, 20, 15, 3, 20));
        Due.due("count(1): two", 129, x.count(1));
        Due.due("drift(0)", -20, x.drift(0));
        Due.due("drift(7)", 20, x.drift(7));
        Due.due("drift(1)", -100, x.drift(1));
        Due.due("drift(8)", -100, x.drift(8));
        Due.due("drift(-1)", -100, x.drift(-1));
        int[] seven = {15, 3, 20, 0, 0, 20, 0, 0, 1, 0};
        for (int what = 0; what < seven.length; what++) {
            Due.due("singerIs(7, " + what + ")", seven[what], x.singerIs(7, what));
        }
        Due.due("singerIs(7, 10)", -1, x.singerIs(7, 10));
        Due.due("singerIs(7, -1)", -1, x.singerIs(7, -1));
        Due.due("singerIs(8, 0)", -1, x.singerIs(8, 0));
        Due.due("a wrong singer in place of a right one", false, x.singer(7, 0, 0, 0, 21));
        Due.due("he stays", 20, x.drift(7));

        Due.due("his ROLL", 3, Due.roll(x, 7, "abc"));
        x.tempo(60);
        Due.due("law of BREATH", 1, Due.law(x, "b20(1=1)"));
        Due.due("two TICKS", 2, x.ticks(2));
        Due.due("no BREATH is left behind the first BEAT", 0, x.singerIs(7, 5));
        Due.due("the second BEAT is MISSED", 1, x.singerIs(7, 6));
        Due.due("PHASE", 40, x.singerIs(7, 4));
        Due.due("AT", 2, x.singerIs(7, 3));
        Due.due("told anew", true, x.singer(7, 1, 2, 3, 4));
        int[] again = {2, 3, 4, 0, 0, 4, 0, 0, 0, 0};
        for (int what = 0; what < again.length; what++) {
            Due.due("anew: singerIs(7, " + what + ")", again[what], x.singerIs(7, what));
        }
        Due.due("the ROLL stays", 3, x.count(17));
    }

    private static void hearing() {
        ClockChoir x = new ClockChoir();
        x.singer(0, 0, 5, 0, 1);
        x.singer(1, 0, 5, 3, 1);
        x.singer(2, 0, 5, 1, 1);
        x.singer(3, 0, 8, 1, 1);
        x.singer(4, 0, 2, 2, 1);
        x.singer(5, 0, 0, 0, 1);
        int[] far = {0b111110, 0b000000, 0b001011, 0b000000, 0b100000, 0b011111};
        for (int i = 0; i < far.length; i++) {
            Due.due("heard far by " + i, far[i], x.singerIs(i, 9));
        }
        Due.due("ears(-1)", false, x.ears(-1));
        Due.due("ears(16)", false, x.ears(16));
        Due.due("count(4)", 15, x.count(4));
        Due.due("ears(3)", true, x.ears(3));
        Due.due("count(4)", 3, x.count(4));
        int[] near = {0b011110, 0, 0b001011, 0, 0b100000, 0b010000};
        for (int i = 0; i < near.length; i++) {
            Due.due("heard near by " + i, near[i], x.singerIs(i, 9));
        }
        Due.due("ears(0)", true, x.ears(0));
        int[] seat = {0b000110, 0, 0b000011, 0, 0, 0};
        for (int i = 0; i < seat.length; i++) {
            Due.due("heard in his SEAT by " + i, seat[i], x.singerIs(i, 9));
        }
        Due.due("ears(15)", true, x.ears(15));
        ClockChoir y = new ClockChoir();
        y.singer(0, 0, 4, 2, 1);
        y.singer(1, 0, 4, 1, 1);
        y.singer(2, 0, 5, 1, 1);
        Due.due("DEAF to the right: the same SEAT, not the next one", 2, y.singerIs(0, 9));
        Due.due("DEAF to the left: the same SEAT, and the next one", 5, y.singerIs(1, 9));
        Due.due("DEAF to the left: none", 0, y.singerIs(2, 9));
    }

    private static void tempos() {
        ClockChoir x = new ClockChoir();
        Due.due("tempo(59)", false, x.tempo(59));
        Due.due("tempo(601)", false, x.tempo(601));
        Due.due("count(5)", 120, x.count(5));
        x.singer(0, 0, 0, 0, 20);
        Due.roll(x, 0, "(ab)x9");
        Due.due("tempo(600)", true, x.tempo(600));
        Due.due("count(5)", 600, x.count(5));
        Due.due("nine TICKS", 0, x.ticks(9));
        Due.due("PHASE", 540, x.singerIs(0, 4));
        Due.due("tempo(60)", true, x.tempo(60));
        Due.due("PHASES stay", 540, x.singerIs(0, 4));
        Due.due("ten BEATS in a TICK", 10, x.ticks(1));
        Due.due("AT", 10, x.singerIs(0, 3));
        Due.due("PHASE", 0, x.singerIs(0, 4));
    }

    private static void anew() {
        ClockChoir x = new ClockChoir();
        Due.due("anew of nobody", 0, x.anew());
        x.singer(2, 10, 0, 0, 2);
        x.singer(4, 0, 0, 0, 2);
        Due.roll(x, 2, "ab^c");
        Due.roll(x, 4, "...........a^b");
        Due.law(x, "b2(1=1)");
        x.tempo(60);
        Due.due("three TICKS", 5, x.ticks(3));
        Due.due("WAITING", 4, x.count(3));
        Due.due("MISSED", 1, x.singerIs(2, 6));
        Due.due("BREATH", 0, x.singerIs(2, 5));
        Due.due("anew()", 2, x.anew());
        Due.due("none is WAITING", 0, x.count(3));
        int[] due = {0, 0, 2, 0, 0};
        for (int what = 3; what <= 7; what++) {
            Due.due("anew: singerIs(2, " + what + ")", due[what - 3], x.singerIs(2, what));
            Due.due("anew: singerIs(4, " + what + ")", due[what - 3], x.singerIs(4, what));
        }
        Due.due("THE TICK goes on", 3, x.count(0));
    }

    private static void tape() {
        ClockChoir x = new ClockChoir();
        for (int k = 1; k <= 13; k++) {
            Due.due("feed " + k, 20 * k, x.feed(0x61626364, 0x65666761, 0x2e2e2e2e, 0x61616161, 0x61616161));
        }
        Due.due("feed 14", -1, x.feed(1, 2, 3, 4, 5));
        Due.due("count(7)", 260, x.count(7));
        Due.due("roll(0, 61)", -1, x.roll(0, 61));
        Due.due("roll(0, 0)", -1, x.roll(0, 0));
        Due.due("roll(-1, 9)", -1, x.roll(-1, 9));
        Due.due("roll(8, 9)", -1, x.roll(8, 9));
        Due.due("law(0)", -1, x.law(0));
        Due.due("law(241)", -1, x.law(241));
        Due.due("check(9)", -2, x.check(9));
        Due.due("check(-1)", -2, x.check(-1));
        Due.due("the tape stays", 260, x.count(7));
        Due.due("roll(0, 60)", 60, x.roll(0, 60));
        Due.due("the tape is empty", 0, x.count(7));
        for (int k = 0; k < 12; k++) {
            Due.due("BEAT " + k, k < 7 ? k + 1 : k == 7 ? 1 : 0, x.beat(0, k, 0));
        }
        Due.due("roll(0, 1): nothing is there", -1, x.roll(0, 1));
        Due.due("law(1): nothing is there", -1, x.law(1));
        Due.due("check(1): nothing is there", -2, x.check(1));
        x.feed(-1, -1, -1, -1, -1);
        Due.due("a byte of 255", -1000, x.roll(0, 20));
        Due.due("a FAULT empties the tape", 0, x.count(7));
        Due.due("the ROLL before stays", 60, x.count(10));
        x.feed(0x7562, 0, 0, 0, 0);
        Due.due("a byte of 0", -1000, x.law(20));
        Due.due("a FAULT empties the tape", 0, x.count(7));
        x.feed(1, 2, 3, 4, 5);
        Due.due("law(21): not so many", -1, x.law(21));
        Due.due("roll(0, 21): not so many", -1, x.roll(0, 21));
        Due.due("the tape stays", 20, x.count(7));
    }

    private static void rolls() {
        ClockChoir x = new ClockChoir();
        Due.due("roll", 13, Due.roll(x, 3, "(a2^,.3)x2g^b,."));
        int[] notes = {1, 1, 0, 0, 0, 1, 1, 0, 0, 0, 7, 2, 0};
        int[] fermatas = {0, 1, 0, 0, 0, 0, 1, 0, 0, 0, 1, 0, 0};
        int[] breaths = {0, 1, 0, 0, 0, 0, 1, 0, 0, 0, 0, 1, 0};
        int[] begins = {1, 0, 1, 0, 0, 1, 0, 1, 0, 0, 1, 1, 1};
        for (int k = 0; k < 13; k++) {
            Due.due("NOTE " + k, notes[k], x.beat(3, k, 0));
            Due.due("FERMATA " + k, fermatas[k], x.beat(3, k, 1));
            Due.due("BREATH " + k, breaths[k], x.beat(3, k, 2));
            Due.due("begins " + k, begins[k], x.beat(3, k, 3));
        }
        Due.due("count(13)", 13, x.count(13));
        Due.due("count(23)", 3, x.count(23));
        Due.due("beat(3, 13, 0)", -1, x.beat(3, 13, 0));
        Due.due("beat(3, -1, 0)", -1, x.beat(3, -1, 0));
        Due.due("beat(3, 0, 4)", -1, x.beat(3, 0, 4));
        Due.due("beat(3, 0, -1)", -1, x.beat(3, 0, -1));
        Due.due("beat(-1, 0, 0)", -1, x.beat(-1, 0, 0));
        Due.due("beat(8, 0, 0)", -1, x.beat(8, 0, 0));
        Due.due("beat of no ROLL", -1, x.beat(4, 0, 0));
        Due.due("a ROLL of two levels", 36, Due.roll(x, 3, "((ab)x3(c)x6)x3"));
        Due.due("a shorter ROLL in its place", 1, Due.roll(x, 3, ".^,"));
        Due.due("a FERMATA on a rest", 1, x.beat(3, 0, 1));
        Due.due("a BREATH behind a rest", 1, x.beat(3, 0, 2));
        Due.due("count(23)", 1, x.count(23));

        x.singer(0, 0, 0, 0, 3);
        Due.roll(x, 0, "a^bc");
        x.tempo(60);
        x.singer(1, 0, 0, 0, 3);
        Due.roll(x, 1, "......a^b");
        Due.due("a TICK", 2, x.ticks(1));
        Due.due("he WAITS", 1, x.singerIs(0, 7));
        Due.due("a FAULT", -1001, Due.roll(x, 0, "az"));
        Due.due("changes nothing: AT", 1, x.singerIs(0, 3));
        Due.due("changes nothing: WAITING", 1, x.singerIs(0, 7));
        Due.due("a new ROLL", 2, Due.roll(x, 0, "ab"));
        Due.due("he is at the beginning: AT", 0, x.singerIs(0, 3));
        Due.due("he is at the beginning: WAITING", 0, x.singerIs(0, 7));
        Due.due("another one goes on", 1, x.singerIs(1, 3));
    }

    private static void rollFaults() {
        String[] texts = {
            "h", "A", "2", "a1", "a0", "a22", "a,^", "a^^", "a,,", "^", ",", "(", "()", "a)", "(a", "(a)x", "(a)x1",
            "(a)x0", "(a)x22", "(a)2", "(a)^", "(a),", "(a)x2^", "a x", "((a)", "((a)x2", "x2", "ax2", "a(x2)",
            "(((", "(((a)))", "((a(", "((ax(", "a(b(c(d", "(a(b)(c))(((", "((a))((a)",
        };
        int[] due = {
            -1000, -1000, -1000, -1001, -1001, -1002, -1002, -1002, -1002, -1000, -1000, -1001, -1001, -1001, -1002,
            -1004, -1004, -1004, -1005, -1003, -1003, -1003, -1005, -1001, -1004, -1006, -1000, -1001, -1002,
            -5002, -5002, -5003, -1003, -5005, -5011, -1009,
        };
        ClockChoir x = new ClockChoir();
        for (int k = 0; k < texts.length; k++) {
            Due.due("roll " + texts[k], due[k], Due.roll(x, 0, texts[k]));
        }
        Due.due("60 BEATS", 60, Due.roll(x, 0, "a9a9a9a9a9a9a6"));
        Due.due("61 BEATS", -6012, Due.roll(x, 0, "a9a9a9a9a9a9a7"));
        Due.due("61 BEATS, then no digit", -6014, Due.roll(x, 0, "a9a9a9a9a9a9a6a1"));
        Due.due("61 BEATS, a FAULT behind", -6012, Due.roll(x, 0, "a9a9a9a9a9a9a8zz"));
        Due.due("a FAULT ahead", -1002, Due.roll(x, 0, "a9za9a9a9a9a9a9"));
        Due.due("60 in rounds", 60, Due.roll(x, 0, "((ab3.)x4)x3"));
        Due.due("63 in rounds", -6000, Due.roll(x, 0, "((ab3.2.)x3)x3"));
        Due.due("72: an inner one first", -6001, Due.roll(x, 0, "((a8)x9)x2"));
        Due.due("a letter within", -6007, Due.roll(x, 0, "(a9)x6(b7)"));
        Due.due("an inner round behind much", -6008, Due.roll(x, 0, "(a9)x6.((ab)x3)x2"));
        Due.due("the outer round", -6007, Due.roll(x, 0, "(a9)x6.((a)x3)x2"));
        Due.due("no digit behind x", -1006, Due.roll(x, 0, "(a9a)xx"));
        Due.due("a round of once at the end", 60, Due.roll(x, 0, "(a9)x6((a6))"));
    }

    private static void laws() {
        ClockChoir x = new ClockChoir();
        String[] right = {
            "u1(1=1)", "v99999(s<d)", "b[1](p>a)", "c1+2-3*4/5%6(n=l&k=t)", "x(!!!!!s=0)", "x(!(!(s=0)))",
            "u[[[[[[1]]]]]](1=1)", "x([[[[[1]]]]]=1)", "x(1=[[[[[1]]]]])", "x((((((1=1))))))", "x(s=0|s=1&s=2|!s=3)",
            "x(![[[[1]]]]=1&[[[[[1]]]]]=1)", "u00000(00001=1)",
        };
        for (String text : right) {
            Due.due("law " + text, 1, Due.law(x, text));
        }
        StringBuilder sixteen = new StringBuilder("x(s=0)");
        for (int k = 2; k <= 16; k++) {
            sixteen.append(";u").append(k).append("(s=").append(k).append(")");
        }
        Due.due("16 RULES", 16, Due.law(x, sixteen.toString()));
        Due.due("count(6)", 16, x.count(6));
        Due.due("a 17th", -4000 - sixteen.length() - 1, Due.law(x, sixteen + ";u"));
        Due.due("a 17th letter that can't stand there", -1000 - sixteen.length() - 1, Due.law(x, sixteen + ";s"));
        Due.due("an end behind the 16th ;", -1000 - sixteen.length() - 1, Due.law(x, sixteen + ";"));
        Due.due("the LAW before stays", 16, x.count(6));
        Due.due("one RULE", 1, Due.law(x, "u1(1=1)"));
        Due.due("count(6)", 1, x.count(6));

        StringBuilder longest = new StringBuilder("u10");
        while (longest.length() < 235) {
            longest.append("+1");
        }
        longest.append("(1=1)");
        Due.due("240 bytes", 1, Due.law(x, longest.toString()));
        x.singer(0, 0, 0, 0, 1);
        Due.roll(x, 0, "a");
        x.tempo(600);
        Due.due("of which the worth is 126, no more than 60", 120, x.tried(1, 20));
    }

    private static void lawFaults() {
        String[] texts = {
            "z", "u", "u(", "u1", "u1(", "u1()", "u1(1", "u1(1=", "u1(1=1", "u1(1=1)x", "u1(1=1);", "u1(1=1);;",
            "x1(1=1)", "x", "x(1=1))", "x((1=1)", "x(1==1)", "x(1!1)", "x(!)", "x(1=1!)", "x(1=1&)", "x(1=1|)",
            "x(|1=1)", "x((1)=1)", "x([1=1])", "x([1)", "x([1]1=1)", "u-1(1=1)", "u1+(1=1)", "u1*-1(1=1)", "uu(1=1)",
            "uq(1=1)", "u123456(1=1)", "u12345(123456=1)", "x(1=1000000)", "u[[[[[[[1", "u[[[[[[1]]]]]][[",
            "x(((((((", "x(!!!!!!", "x([[[[[[", "x(1=[[[[[[", "x(!(!(!(", "x(![!", "u1 (1=1)", "x(1=1)|x(1=1)",
            "x(s=0&(s=1|(s=2&(s=3|(s=4&(s=5|(s=6", "x((1=1)=1)", "x(!!!!!s=0&!!!!!s=0&!!!!![",
        };
        int[] due = {
            -1000, -1001, -1001, -1002, -1003, -1003, -1004, -1005, -1006, -1007, -1008, -1008,
            -1001, -1001, -1006, -1007, -1004, -1003, -1003, -1005, -1006, -1006,
            -1002, -1004, -1004, -1004, -1005, -1001, -1003, -1003, -1001,
            -1001, -2006, -2012, -2009, -5007, -1014,
            -5007, -5007, -5007, -5009, -5007, -1004, -1002, -1006,
            -5031, -1007, -5025,
        };
        ClockChoir x = new ClockChoir();
        for (int k = 0; k < texts.length; k++) {
            Due.due("law " + texts[k], due[k], Due.law(x, texts[k]));
            Due.due("no LAW", 0, x.count(6));
        }
    }
}
