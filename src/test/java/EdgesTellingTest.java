/** Edges of promises 1 to 8, a method for each sentence: who is told, the tape, n of texts, as many as can be. */
public final class EdgesTellingTest {
    private static final String SIXTEEN = "x(s=0);".repeat(15) + "x(s=0)";

    public static void main(String[] args) {
        aNewObject();
        boundsOfSinger();
        inPlaceOfTheOneBefore();
        boundsOfEars();
        whoHearsWhom();
        theSameSeat();
        boundsOfTempo();
        phasesStay();
        anewOfHowMany();
        theTickGoesOn();
        fullTape();
        highestByteFirst();
        bytesComeBehindTheTape();
        lengthsOfALaw();
        lawOfAShortTape();
        lengthsOfARoll();
        rollOfAShortTape();
        rollOfWhom();
        rollOfOneWhoIsNotTold();
        atTheBeginningThen();
        sixteenRules();
        aLawInPlaceOfTheOneBefore();
        faultOfALaw();
        faultOfARoll();
        aRollInPlaceOfTheOneBefore();
        sixtyBeats();
        moreThanSixtyByALetter();
        moreThanSixtyByARound();
        anInnerRoundFirst();
        thirdOpenRound();
        sixDigits();
        seventhOpenBracket();
        theRulesOwnBracketCounts();
        aNotIsOpenTillItsTestEnds();
        theFirstFaultFromTheLeft();
        noBlanks();
        Due.finish("EdgesTellingTest");
    }

    private static void aNewObject() {
        Due.by("No SINGERS, ROLLS, LAW; THE SEED 1.");
        ClockChoir x = new ClockChoir();
        Due.due("told", 0, x.count(1));
        Due.due("DONE", 0, x.count(2));
        Due.due("WAITING", 0, x.count(3));
        Due.due("RULES", 0, x.count(6));
        Due.due("X", 1, x.count(8));
        for (int i = 0; i < 8; i++) {
            Due.due("drift", -100, x.drift(i));
            Due.due("BEATS", 0, x.count(10 + i));
            Due.due("FERMATAS", 0, x.count(20 + i));
            Due.due("no BEAT", -1, x.beat(i, 0, 0));
        }
        Due.by("THE TICK (0 at first)");
        Due.due("count(0)", 0, x.count(0));
        Due.due("the tape", 0, x.count(7));
    }

    private static void boundsOfSinger() {
        Due.by("SINGERS 0 to 7: told or not, DRIFT (-20 to 20), a SEAT (0 to 15), DEAF (0 not, 1 to the left, 2 to the right, 3 on both sides), LUNGS (1 to 20).");
        int[] low = {0, -20, 0, 0, 1};
        int[] high = {7, 20, 15, 3, 20};
        for (int place = 0; place < 5; place++) {
            for (int value : Edges.around(low[place], high[place])) {
                int[] a = {3, -4, 7, 1, 9};
                a[place] = value;
                boolean due = Edges.within(value, low[place], high[place]);
                ClockChoir x = new ClockChoir();
                Due.due("singer with " + value + " at " + place, due, x.singer(a[0], a[1], a[2], a[3], a[4]));
                Due.due("told then", due ? 1 << a[0] : 0, x.count(1));
                if (due) {
                    Due.due("DRIFT", a[1], x.drift(a[0]));
                    Due.due("SEAT", a[2], x.singerIs(a[0], 0));
                    Due.due("DEAF", a[3], x.singerIs(a[0], 1));
                    Due.due("LUNGS", a[4], x.singerIs(a[0], 2));
                    Due.due("BREATH (LUNGS at first)", a[4], x.singerIs(a[0], 5));
                }
            }
        }
    }

    private static void inPlaceOfTheOneBefore() {
        Due.by("A SINGER (in place of the one before: at the beginning; the ROLL stays)");
        ClockChoir x = new ClockChoir();
        x.singer(6, 20, 0, 0, 1);
        Due.roll(x, 6, "ab^c");
        Due.law(x, "b1(1=1)");
        x.tempo(60);
        x.ticks(2);
        Due.due("WAITING", 1, x.singerIs(6, 7));
        Due.due("MISSED", 1, x.singerIs(6, 6));
        Due.due("BREATH", 0, x.singerIs(6, 5));
        Due.due("AT", 2, x.singerIs(6, 3));
        Due.due("in his place", true, x.singer(6, -20, 15, 3, 20));
        int[] due = {15, 3, 20, 0, 0, 20, 0, 0, 0, 0};
        for (int what = 0; what < 10; what++) {
            Due.due("singerIs(6, " + what + ")", due[what], x.singerIs(6, what));
        }
        Due.due("DRIFT", -20, x.drift(6));
        Due.due("BEATS", 3, x.count(16));
        Due.due("FERMATAS", 1, x.count(26));
        Due.due("THE TICK", 2, x.count(0));
    }

    private static void boundsOfEars() {
        Due.by("EARS (0 to 15; 15 at first)");
        ClockChoir x = new ClockChoir();
        Due.due("at first", 15, x.count(4));
        int now = 15;
        for (int n : Edges.around(0, 15)) {
            boolean due = Edges.within(n, 0, 15);
            Due.due("ears(" + n + ")", due, x.ears(n));
            now = due ? n : now;
            Due.due("EARS behind ears(" + n + ")", now, x.count(4));
        }
    }

    private static void whoHearsWhom() {
        Due.by("one HEARS another told one whose SEAT is no farther than EARS from his, if he is not DEAF on that side (to the left: lower SEATS; the same SEAT: just DEAF 3 does not)");
        for (int seat = 0; seat < 16; seat++) {
            for (int other = 0; other < 16; other++) {
                ClockChoir x = new ClockChoir();
                x.singer(5, 0, other, 3, 1);
                for (int deaf = 0; deaf < 4; deaf++) {
                    x.singer(4, 0, seat, deaf, 1);
                    boolean side = other == seat ? deaf != 3
                            : other < seat ? deaf == 0 || deaf == 2 : deaf == 0 || deaf == 1;
                    for (int ears = 0; ears < 16; ears++) {
                        x.ears(ears);
                        boolean near = other - seat <= ears && seat - other <= ears;
                        Due.due("SEAT " + seat + " DEAF " + deaf + " EARS " + ears + " hears SEAT " + other,
                                side && near ? 1 << 5 : 0, x.singerIs(4, 9));
                    }
                }
            }
        }
    }

    private static void theSameSeat() {
        Due.by("the same SEAT: just DEAF 3 does not");
        ClockChoir x = new ClockChoir();
        x.ears(0);
        for (int i = 0; i < 8; i++) {
            x.singer(i, 0, 9, i % 4, 1);
        }
        for (int i = 0; i < 8; i++) {
            Due.due("all but himself, by " + i, i % 4 == 3 ? 0 : 255 & ~(1 << i), x.singerIs(i, 9));
        }
    }

    private static void boundsOfTempo() {
        Due.by("TEMPO (60 to 600; 120 at first)");
        ClockChoir x = new ClockChoir();
        Due.due("at first", 120, x.count(5));
        int now = 120;
        for (int n : Edges.around(60, 600)) {
            boolean due = Edges.within(n, 60, 600);
            Due.due("tempo(" + n + ")", due, x.tempo(n));
            now = due ? n : now;
            Due.due("TEMPO behind tempo(" + n + ")", now, x.count(5));
        }
    }

    private static void phasesStay() {
        Due.by("TEMPO (PHASES stay)");
        ClockChoir x = new ClockChoir();
        x.singer(0, -1, 0, 0, 1);
        Due.roll(x, 0, "(abc)x9");
        x.tempo(600);
        x.ticks(10);
        Due.due("PHASE", 590, x.singerIs(0, 4));
        x.tempo(60);
        Due.due("PHASE far beyond TEMPO", 590, x.singerIs(0, 4));
        Due.due("AT", 0, x.singerIs(0, 3));
        Due.due("then 590 and 59 at once: ten BEATS", 10, x.ticks(1));
        Due.due("PHASE", 49, x.singerIs(0, 4));
    }

    private static void anewOfHowMany() {
        Due.by("All told ones begin anew: AT, PHASE, MISSED 0, BREATH as LUNGS are, none is WAITING (THE TICK goes on): how many are told.");
        ClockChoir x = new ClockChoir();
        Due.due("of nobody", 0, x.anew());
        for (int i = 7; i >= 0; i--) {
            x.singer(i, 5, i, 0, i + 1);
            Due.due("one more", 8 - i, x.anew());
        }
        for (int i = 0; i < 8; i++) {
            Due.roll(x, i, "abcd^e");
        }
        Due.law(x, "b7(1=1)");
        x.tempo(63);
        x.ticks(4);
        Due.due("3 has MISSED three", 3, x.singerIs(3, 6));
        Due.due("all WAIT", 255, x.count(3));
        x.tempo(600);
        x.ticks(2);
        Due.due("PHASE", 65, x.singerIs(3, 4));
        Due.due("all of them", 8, x.anew());
        for (int i = 0; i < 8; i++) {
            int[] due = {0, 0, i + 1, 0, 0};
            for (int what = 3; what <= 7; what++) {
                Due.due("singerIs(" + i + ", " + what + ")", due[what - 3], x.singerIs(i, what));
            }
        }
        Due.due("DRIFT stays", 5, x.drift(7));
        Due.due("ROLLS stay", 5, x.count(17));
    }

    private static void theTickGoesOn() {
        Due.by("(THE TICK goes on)");
        ClockChoir x = new ClockChoir();
        x.singer(0, 0, 0, 0, 1);
        Due.roll(x, 0, "abc");
        x.ticks(7);
        int draws = x.count(8);
        x.anew();
        Due.due("THE TICK", 7, x.count(0));
        Due.due("X", draws, x.count(8));
    }

    private static void fullTape() {
        Due.by("how many it has; NONE if that would be more than 260.");
        ClockChoir x = new ClockChoir();
        x.singer(0, 0, 0, 0, 1);
        for (int k = 1; k <= 13; k++) {
            Due.due("feed " + k, 20 * k, x.feed(k - 1, 0, 0, 0, 0));
            Due.due("bytes", 20 * k, x.count(7));
        }
        for (int k = 0; k < 3; k++) {
            Due.due("one more", -1, x.feed(-1, -1, -1, -1, -1));
            Due.due("bytes", 260, x.count(7));
        }
        Due.due("the tape is as it was", -1, x.check(4));
        Due.due("room again", 20, x.feed(0, 0, 0, 0, 0));
    }

    private static void highestByteFirst() {
        Due.by("Twenty bytes come behind the tape, the highest of each int first");
        // A byte that can't stand in a ROLL is FAULT 1 at its place.
        for (int sign : new int[] {0, 1, 127, 128, 129, 254, 255}) {
            ClockChoir x = new ClockChoir();
            for (int place = 0; place < 20; place++) {
                int[] w = {0x61616161, 0x61616161, 0x61616161, 0x61616161, 0x61616161};
                int shift = 24 - place % 4 * 8;
                w[place / 4] = w[place / 4] & ~(255 << shift) | sign << shift;
                Due.due("feed", 20, x.feed(w[0], w[1], w[2], w[3], w[4]));
                Due.due("byte " + sign + " at " + place, -1000 - place, x.roll(0, 20));
            }
        }
    }

    private static void bytesComeBehindTheTape() {
        Due.by("Twenty bytes come behind the tape");
        ClockChoir x = new ClockChoir();
        for (int k = 1; k <= 3; k++) {
            int word = 0x01010101 * ('a' + k);
            x.feed(word, word, word, word, word);
        }
        Due.due("60 bytes", 60, x.roll(0, 60));
        for (int k = 0; k < 60; k++) {
            Due.due("NOTE " + k, 2 + k / 20, x.beat(0, k, 0));
        }
    }

    private static void lengthsOfALaw() {
        Due.by("THE LAW by the first n bytes of the tape (1 to 240; empty then)");
        String longest = "u1" + "+1".repeat(116) + "(11=1)";
        for (int n : Edges.around(1, 240)) {
            ClockChoir x = new ClockChoir();
            Due.feed(x, longest + "a".repeat(20));
            boolean can = Edges.within(n, 1, 240);
            // Each shorter beginning of that text lacks something, and the end is the FAULT.
            Due.due("law(" + n + ")", !can ? -1 : n == 240 ? 1 : -1000 - n, x.law(n));
            Due.due("bytes of the tape then", can ? 0 : 260, x.count(7));
            Due.due("RULES then", n == 240 ? 1 : 0, x.count(6));
        }
    }

    private static void lawOfAShortTape() {
        Due.by("NONE: no such n, it has not so many (the tape stays)");
        ClockChoir x = new ClockChoir();
        Due.due("an empty tape", -1, x.law(1));
        Due.feed(x, "x(11111=11111+s-9)  ");
        Due.due("one too many", -1, x.law(21));
        Due.due("the tape stays", 20, x.count(7));
        Due.due("all of it: a blank can't stand there", -1018, x.law(20));
        Due.feed(x, "x(11111=11111+s-999)");
        Due.due("all of it", 1, x.law(20));
        Due.due("the tape is empty", 0, x.count(7));
    }

    private static void lengthsOfARoll() {
        Due.by("by the first n bytes of the tape (1 to 60; empty then)");
        for (int n : Edges.around(1, 60)) {
            ClockChoir x = new ClockChoir();
            Due.feed(x, "a".repeat(80));
            boolean can = Edges.within(n, 1, 60);
            Due.due("roll(0, " + n + ")", can ? n : -1, x.roll(0, n));
            Due.due("bytes of the tape then", can ? 0 : 80, x.count(7));
            Due.due("BEATS then", can ? n : 0, x.count(10));
        }
    }

    private static void rollOfAShortTape() {
        Due.by("NONE: no such ones, it has not so many (the tape stays)");
        ClockChoir x = new ClockChoir();
        Due.due("an empty tape", -1, x.roll(0, 1));
        Due.feed(x, "abcdefgabcdefgabcdef");
        Due.due("one too many", -1, x.roll(0, 21));
        Due.due("the tape stays", 20, x.count(7));
        Due.due("all of it", 20, x.roll(0, 20));
        Due.due("the last byte", 6, x.beat(0, 19, 0));
        Due.due("the tape is empty", 0, x.count(7));
    }

    private static void rollOfWhom() {
        Due.by("The ROLL of SINGER i (0 to 7, told or not; he is at the beginning then)");
        for (int i : Edges.around(0, 7)) {
            ClockChoir x = new ClockChoir();
            Due.feed(x, "abc");
            boolean can = Edges.within(i, 0, 7);
            Due.due("roll(" + i + ", 2)", can ? 2 : -1, x.roll(i, 2));
            Due.due("bytes of the tape then", can ? 0 : 20, x.count(7));
            for (int j = 0; j < 8; j++) {
                Due.due("BEATS of " + j, i == j ? 2 : 0, x.count(10 + j));
            }
        }
    }

    private static void rollOfOneWhoIsNotTold() {
        Due.by("SINGER i (0 to 7, told or not");
        ClockChoir x = new ClockChoir();
        Due.due("a ROLL", 2, Due.roll(x, 7, "ab"));
        Due.due("he is not told for that", 0, x.count(1));
        Due.due("nor DONE", 0, x.count(2));
        x.singer(7, 0, 0, 0, 1);
        Due.due("told later, he is not DONE", 0, x.singerIs(7, 8));
    }

    private static void atTheBeginningThen() {
        Due.by("he is at the beginning then");
        ClockChoir x = new ClockChoir();
        for (int i = 0; i < 2; i++) {
            x.singer(i, 20, 0, 0, 1);
            Due.roll(x, i, "ab^c");
        }
        Due.law(x, "b1(1=1)");
        x.tempo(60);
        x.ticks(2);
        Due.due("both WAIT", 3, x.count(3));
        Due.roll(x, 1, "c");
        int[] old = {2, 0, 0, 1, 1, 0};
        int[] anew = {0, 0, 1, 0, 0, 0};
        for (int what = 3; what <= 8; what++) {
            Due.due("singerIs(0, " + what + ")", old[what - 3], x.singerIs(0, what));
            Due.due("singerIs(1, " + what + ")", anew[what - 3], x.singerIs(1, what));
        }
    }

    private static void sixteenRules() {
        Due.by("RULES (16 at most) with a ; (59) between two");
        for (int many = 1; many <= 16; many++) {
            ClockChoir x = new ClockChoir();
            Due.due(many + " RULES", many, Due.law(x, SIXTEEN.substring(0, 7 * many - 1)));
            Due.due("count(6)", many, x.count(6));
        }
        Due.by("4 a 17th RULE, at its letter (if that can stand there)");
        int place = SIXTEEN.length() + 1;
        for (String letter : new String[] {"u", "v", "b", "c", "x", "x(s=0)", "xx", "u123456"}) {
            ClockChoir x = new ClockChoir();
            Due.due("a 17th " + letter, -4000 - place, Due.law(x, SIXTEEN + ";" + letter));
            Due.due("no LAW", 0, x.count(6));
        }
        for (String sign : new String[] {"", "s", "(", ";", "1", " "}) {
            ClockChoir x = new ClockChoir();
            Due.due("no 17th " + sign, -1000 - place, Due.law(x, SIXTEEN + ";" + sign));
        }
        Due.due("no ; behind the 16th", -1000 - place + 1, Due.law(new ClockChoir(), SIXTEEN + "u"));
        Due.due("a FAULT in the 16th", -1000 - place + 2, Due.law(new ClockChoir(), SIXTEEN.substring(0, place - 2) + ";u"));
    }

    private static void aLawInPlaceOfTheOneBefore() {
        Due.by("in place of the one before: how many RULES");
        ClockChoir x = new ClockChoir();
        x.singer(0, 0, 0, 0, 1);
        Due.roll(x, 0, "a");
        x.tempo(600);
        Due.due("one RULE", 1, Due.law(x, "u9(1=1)"));
        Due.due("by it", 69, x.tried(1, 20));
        Due.due("two RULES", 2, Due.law(x, "v9(1=1);v1(1=1)"));
        Due.due("by them alone", 51, x.tried(1, 20));
        Due.due("one again", 1, Due.law(x, "x(1=2)"));
        Due.due("by it alone", 60, x.tried(1, 20));
    }

    private static void faultOfALaw() {
        Due.by("a FAULT: -1000 times its number, less its place (the one before stays)");
        ClockChoir x = new ClockChoir();
        x.singer(0, 0, 0, 0, 1);
        Due.roll(x, 0, "a");
        x.tempo(600);
        Due.law(x, "u9(1=1)");
        String[] texts = {"v8(1=1);u(1=1)", "v123456", SIXTEEN + ";x(1=1)", "v[[[[[[[1]]]]]]](1=1)", "v8(1=1", "#"};
        int[] due = {-1009, -2006, -4112, -5007, -1006, -1000};
        for (int k = 0; k < texts.length; k++) {
            Due.due("law " + texts[k], due[k], Due.law(x, texts[k]));
            Due.due("the tape is empty", 0, x.count(7));
            Due.due("RULES", 1, x.count(6));
            Due.due("the one before stays", 69, x.tried(1, 20));
        }
        String last = "u1" + "+1".repeat(116) + "(1=1))";
        Due.due("at the last place", -1239, Due.law(x, last));
        Due.due("behind the last place", -1240, Due.law(x, "u11" + "+1".repeat(116) + "(1=11"));
        Due.due("the one before stays", 69, x.tried(1, 20));
    }

    private static void faultOfARoll() {
        Due.by("A call that is refused (NONE, false) changes nothing but the tape, where it is told.");
        ClockChoir x = new ClockChoir();
        x.singer(0, 7, 0, 0, 1);
        Due.roll(x, 0, "ab^c");
        Due.law(x, "b1(1=1)");
        x.tempo(67);
        x.ticks(2);
        String[] texts = {"h", "ab(", "((((a))))", "(a9)x9", "a9a9a9a9a9a9a9a9a9", "(ab)x"};
        int[] due = {-1000, -1003, -5002, -6000, -6012, -1005};
        for (int k = 0; k < texts.length; k++) {
            Due.due("roll " + texts[k], due[k], Due.roll(x, 0, texts[k]));
            Due.due("the tape is empty", 0, x.count(7));
            int[] state = {2, 0, 0, 1, 1, 0};
            for (int what = 3; what <= 8; what++) {
                Due.due("singerIs(0, " + what + ")", state[what - 3], x.singerIs(0, what));
            }
            Due.due("BEATS", 3, x.count(10));
            Due.due("NOTE", 3, x.beat(0, 2, 0));
            Due.due("FERMATAS", 1, x.count(20));
        }
        Due.due("at the last place", -1059, Due.roll(x, 0, "a".repeat(59) + "x"));
        Due.due("behind the last place", -1060, Due.roll(x, 0, "a".repeat(59) + "("));
        Due.due("BEATS", 3, x.count(10));
    }

    private static void aRollInPlaceOfTheOneBefore() {
        Due.by("in place of the one before: how many BEATS");
        ClockChoir x = new ClockChoir();
        Due.due("a long one", 60, Due.roll(x, 2, "(a^,)x9".repeat(6) + "a6^,"));
        Due.due("its FERMATAS", 55, x.count(22));
        Due.due("a short one", 2, Due.roll(x, 2, "b2"));
        Due.due("FERMATAS", 0, x.count(22));
        Due.due("BEAT 0", 2, x.beat(2, 0, 0));
        for (int what = 1; what <= 2; what++) {
            Due.due("nothing of the one before", 0, x.beat(2, 0, what) + x.beat(2, 1, what));
        }
        Due.due("begins", 1, x.beat(2, 0, 3));
        Due.due("goes on", 0, x.beat(2, 1, 3));
        Due.due("no BEAT 2", -1, x.beat(2, 2, 0));
        Due.due("the long one again", 60, Due.roll(x, 2, "(a)x9".repeat(6) + "a6"));
        Due.due("FERMATAS", 0, x.count(22));
    }

    private static void sixtyBeats() {
        Due.by("60 BEATS at most in all.");
        String[] texts = {"a".repeat(60), "a9b9c9d9e9f9g6", "(a9)x6.6", "((a)x9)x6(b)x6", "((ab)x6)x5", "(a6)x9.6", "((a3)x4)x5"};
        for (String text : texts) {
            ClockChoir x = new ClockChoir();
            Due.due("roll " + text, 60, Due.roll(x, 0, text));
            Due.due("BEATS", 60, x.count(10));
            Due.due("the last one", true, x.beat(0, 59, 0) >= 0);
            Due.due("none behind it", -1, x.beat(0, 60, 0));
        }
    }

    private static void moreThanSixtyByALetter() {
        Due.by("6 more than 60, at the first byte of what by which they are (asked when it ends: of a letter behind its digit");
        ClockChoir x = new ClockChoir();
        String sixty = "a9b9c9d9e9f9g6";
        Due.due("one letter more", -6014, Due.roll(x, 0, sixty + "a"));
        Due.due("one rest more", -6014, Due.roll(x, 0, sixty + "."));
        Due.due("one letter more, behind which something can't stand", -6014, Due.roll(x, 0, sixty + "a#"));
        Due.due("no letter at all", -1014, Due.roll(x, 0, sixty + "#"));
        Due.due("by its digit", -6012, Due.roll(x, 0, "a9b9c9d9e9f9g7"));
        Due.due("far by its digit", -6012, Due.roll(x, 0, "a9b9c9d9e9f9g9^,"));
        Due.due("a rest by its digit", -6012, Due.roll(x, 0, "a9b9c9d9e9f9.7"));
        Due.due("a digit too many is asked later", -6012, Due.roll(x, 0, "a9b9c9d9e9f9g77"));
        Due.due("a letter in a round", -6015, Due.roll(x, 0, sixty + "(a"));
        Due.due("an empty round", -1015, Due.roll(x, 0, sixty + "()"));
        Due.due("a FERMATA and a BREATH add none", 60, Due.roll(x, 0, sixty + "^,"));
    }

    private static void moreThanSixtyByARound() {
        Due.by("of ( behind the x");
        ClockChoir x = new ClockChoir();
        Due.due("61 by a round", -6002, Due.roll(x, 0, "a9(b9b9b8)x2"));
        Due.due("60 by a round", 60, Due.roll(x, 0, "a8(b9b9b8)x2"));
        Due.due("62 by a round", -6002, Due.roll(x, 0, "a8(b9b9b9)x2"));
        Due.due("no x", 35, Due.roll(x, 0, "a8(b9b9b9)"));
        Due.due("x at the end", -1011, Due.roll(x, 0, "a8(b9b9b9)x"));
        Due.due("x and no digit", -1011, Due.roll(x, 0, "a8(b9b9b9)x1"));
        Due.due("x and a digit, then what can't stand there", -6002, Due.roll(x, 0, "a8(b9b9b9)x2#"));
        Due.due("a round of 7 by 9", -6000, Due.roll(x, 0, "(abcdefg)x9"));
        Due.due("a round of 6 by 9", 54, Due.roll(x, 0, "(abcdef)x9"));
        Due.due("a round that is not closed", -1008, Due.roll(x, 0, "(abcdefgx9"));
        Due.due("a round that ends", -1008, Due.roll(x, 0, "(abcdefg"));
    }

    private static void anInnerRoundFirst() {
        Due.by("of an inner one first");
        ClockChoir x = new ClockChoir();
        Due.due("the inner one is too long", -6002, Due.roll(x, 0, "(a(b9)x9)x9"));
        Due.due("the inner one just fits", -6000, Due.roll(x, 0, "(a9a2(b7)x7)x2"));
        Due.due("all just fits", 60, Due.roll(x, 0, "(ab(cd2)x2.2)x6"));
        Due.due("a letter in the inner one", -6008, Due.roll(x, 0, "(a9)x6((g7)x2)x2"));
        Due.due("a letter behind the inner one", -6012, Due.roll(x, 0, "(a9)x6((g)x6a)x2"));
        Due.due("a second inner one", -6010, Due.roll(x, 0, "((a9)x6(b)(c)x7)x2"));
    }

    private static void thirdOpenRound() {
        Due.by("5 a third ( that is open in another one, at it");
        ClockChoir x = new ClockChoir();
        Due.due("two", 1, Due.roll(x, 0, "((a))"));
        Due.due("two and two", 4, Due.roll(x, 0, "((a)(b))((c)(d))"));
        Due.due("three", -5002, Due.roll(x, 0, "(((a)))"));
        Due.due("three, not at once", -5005, Due.roll(x, 0, "(a(bc(d)))"));
        Due.due("three, behind two that are closed", -5010, Due.roll(x, 0, "((a)x2(b)((c)))"));
        Due.due("behind one that is closed", -5005, Due.roll(x, 0, "((a)((c)))"));
        Due.due("five in a row", 5, Due.roll(x, 0, "(a)(a)(a)(a)(a)"));
        Due.due("at the end", -5003, Due.roll(x, 0, "((a("));
    }

    private static void sixDigits() {
        Due.by("2 a sixth digit, at it");
        ClockChoir x = new ClockChoir();
        Due.due("five", 1, Due.law(x, "u99999(99999=00000)"));
        Due.due("six in E", -2006, Due.law(x, "u999999(1=1)"));
        Due.due("six noughts", -2006, Due.law(x, "u000000(1=1)"));
        Due.due("six on the left", -2007, Due.law(x, "x(1234567=1)"));
        Due.due("six on the right", -2009, Due.law(x, "x(1=1234567)"));
        Due.due("six in brackets", -2007, Due.law(x, "u[123456](1=1)"));
        Due.due("five and five", 1, Due.law(x, "u12345+12345(1=1)"));
        Due.due("at the end", -2006, Due.law(x, "u123456"));
        Due.due("five at the end", -1006, Due.law(x, "u12345"));
    }

    private static void seventhOpenBracket() {
        Due.by("5 a seventh of ( [ ! that are open in one another, at it");
        ClockChoir x = new ClockChoir();
        Due.due("six [ in E", 1, Due.law(x, "u[[[[[[1]]]]]](1=1)"));
        Due.due("a seventh", -5007, Due.law(x, "u[[[[[[[1]]]]]]](1=1)"));
        Due.due("a seventh, not at once", -5013, Due.law(x, "u[1+[1+[[[[1+[1]]]]]]](1=1)"));
        Due.due("six and one behind", 1, Due.law(x, "u[[[[[[1]]]]]]+[[[[[[1]]]]]](1=1)"));
        Due.due("what can't stand there is 1", -1007, Due.law(x, "u[[[[[[(1"));
        Due.due("nor a !", -1007, Due.law(x, "u[[[[[[!1"));
    }

    private static void theRulesOwnBracketCounts() {
        Due.by("(the ( of the RULE counts; a ! is open till its TEST ends; the E of a RULE stands ahead of it)");
        ClockChoir x = new ClockChoir();
        Due.due("five more (", 1, Due.law(x, "x((((((1=1))))))"));
        Due.due("six more (", -5007, Due.law(x, "x(((((((1=1)))))))"));
        Due.due("five more [", 1, Due.law(x, "x([[[[[1]]]]]=[[[[[1]]]]])"));
        Due.due("six more [ on the left", -5007, Due.law(x, "x([[[[[[1]]]]]]=1)"));
        Due.due("six more [ on the right", -5009, Due.law(x, "x(1=[[[[[[1]]]]]])"));
        Due.due("five more !", 1, Due.law(x, "x(!!!!!1=1)"));
        Due.due("six more !", -5007, Due.law(x, "x(!!!!!!1=1)"));
        Due.due("of each some", 1, Due.law(x, "x(!(!([1]=1)))"));
        Due.due("of each some, and a [ too many", -5007, Due.law(x, "x(!(!([[1]]=1)))"));
        Due.due("of each some, and a ! too many", -5007, Due.law(x, "x(!(!((!1=1))))"));
        Due.due("of each some, and a ( too many", -5007, Due.law(x, "x(!(!(!(1=1))))"));
        Due.due("E ahead of it", 1, Due.law(x, "u[[[[[[1]]]]]](!!!!!1=1)"));
        Due.due("in the second RULE, too", -5014, Due.law(x, "x(1=1);x(!!!!!!"));
    }

    private static void aNotIsOpenTillItsTestEnds() {
        Due.by("a ! is open till its TEST ends");
        ClockChoir x = new ClockChoir();
        Due.due("behind an & it is open no more", 1, Due.law(x, "x(!!!!!1=1&!!!!!1=1)"));
        Due.due("behind a | it is open no more", 1, Due.law(x, "x(!!!!!1=1|(((((1=1))))))"));
        Due.due("on the right of its TEST it is open", -5009, Due.law(x, "x(!!!!!1=[1]&1=1)"));
        Due.due("with one ! less it may", 1, Due.law(x, "x(!!!!1=[1]&1=1)"));
        Due.due("around a ( it is open till the )", -5007, Due.law(x, "x(!!!!(!1=1))"));
        Due.due("around a ( with less", 1, Due.law(x, "x(!!!(!1=1&!1=1))"));
        Due.due("behind the ) it is open no more", 1, Due.law(x, "x(!!!!(1=1)&!!!!!1=1)"));
    }

    private static void noBlanks() {
        Due.by("a TEXT of at most 240 bytes, no blanks");
        ClockChoir x = new ClockChoir();
        String law = "u1(1=1);x(!s=0)";
        String roll = "a2^,(.)x2";
        for (char blank : new char[] {' ', '\t', '\n', 0}) {
            for (int k = 0; k <= law.length(); k++) {
                Due.due("a blank at " + k, -1000 - k, Due.law(x, law.substring(0, k) + blank + law.substring(k)));
            }
        }
        Due.by("Told as a TEXT of at most 60 bytes, no blanks");
        for (char blank : new char[] {' ', '\t', '\n', 0}) {
            for (int k = 0; k <= roll.length(); k++) {
                Due.due("a blank at " + k, -1000 - k, Due.roll(x, 0, roll.substring(0, k) + blank + roll.substring(k)));
            }
        }
    }

    private static void theFirstFaultFromTheLeft() {
        Due.by("FAULTS, the first from the left");
        ClockChoir x = new ClockChoir();
        Due.due("1 ahead of 2", -1002, Due.law(x, "u1)123456"));
        Due.due("2 ahead of 1", -2006, Due.law(x, "u123456)"));
        Due.due("2 ahead of 5", -2006, Due.law(x, "u123456([[[[[[[["));
        Due.due("5 ahead of 2", -5007, Due.law(x, "u[[[[[[[123456"));
        Due.due("1 ahead of 6", -1002, Due.roll(x, 0, "a9#a9a9a9a9a9a9a9"));
        Due.due("5 ahead of 6", -5002, Due.roll(x, 0, "(((a9)x9)x9)x9"));
        Due.due("6 ahead of 5", -6000, Due.roll(x, 0, "(a9)x9((("));
    }
}
