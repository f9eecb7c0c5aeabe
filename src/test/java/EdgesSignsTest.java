/** Each of the 256 bytes, and the end, behind beginnings of ROLLS and LAWS: FAULT 1 where it can't stand. */
public final class EdgesSignsTest {
    private static final String ITEM = "abcdefg.(";
    private static final String DIGITS = "0123456789";
    private static final String TIMES = "23456789";
    private static final String KINDS = "uvbcx";
    private static final String WORTH = "[sdpanlkt" + DIGITS;
    private static final String TEST = "!(" + WORTH;
    private static final String REST = "+-*/%";
    private static final String COMPARE = "<>=";

    public static void main(String[] args) {
        itemsOfARoll();
        roundsOfARoll();
        endsOfARoll();
        rulesOfALaw();
        worthsOfALaw();
        testsOfALaw();
        bracketsOfALaw();
        endsOfALaw();
        openAtTheirMost();
        Due.finish("EdgesSignsTest");
    }

    private static int read(ClockChoir x, boolean law, byte[] text) {
        Due.feed(x, text);
        return law ? x.law(text.length) : x.roll(0, text.length);
    }

    /** Any byte but those of the signs is FAULT 1 at its place; these are right, or what follows them is wrong. */
    private static void behind(boolean law, String start, String signs) {
        int place = start.length();
        ClockChoir x = new ClockChoir();
        for (int sign = 0; sign < 256; sign++) {
            if (sign % 64 == 0) {
                x = new ClockChoir();
            }
            byte[] text = new byte[place + 1];
            for (int k = 0; k < place; k++) {
                text[k] = (byte) start.charAt(k);
            }
            text[place] = (byte) sign;
            boolean can = signs.indexOf((char) sign) >= 0;
            Due.due(start + " and byte " + sign, !can, read(x, law, text) == -1000 - place);
        }
    }

    private static void rollBehind(String start, String signs) {
        behind(false, start, signs);
    }

    private static void lawBehind(String start, String signs) {
        behind(true, start, signs);
    }

    private static void itemsOfARoll() {
        Due.by("ITEMS one behind the other: a letter a to g or a dot (46, a rest), perhaps a digit 2 to 9 (so many BEATS: one sound; else 1), perhaps ^ (94: a FERMATA on its last BEAT), perhaps a comma (44: a BREATH behind that)");
        rollBehind("", ITEM);
        for (String item : new String[] {"a", "g", "."}) {
            rollBehind(item, ITEM + TIMES + "^,");
            rollBehind(item + "2", ITEM + "^,");
            rollBehind(item + "9", ITEM + "^,");
            rollBehind(item + "^", ITEM + ",");
            rollBehind(item + "2^", ITEM + ",");
            rollBehind(item + ",", ITEM);
            rollBehind(item + "^,", ITEM);
            rollBehind(item + "9^,", ITEM);
        }
        for (int beats = 2; beats <= 9; beats++) {
            ClockChoir x = new ClockChoir();
            Due.due("a" + beats, beats, Due.roll(x, 0, "a" + beats + "^,"));
            for (int k = 0; k < beats; k++) {
                Due.due("one sound", k == 0 ? 1 : 0, x.beat(0, k, 3));
                Due.due("a FERMATA on its last BEAT", k == beats - 1 ? 1 : 0, x.beat(0, k, 1));
                Due.due("a BREATH behind that", k == beats - 1 ? 1 : 0, x.beat(0, k, 2));
            }
        }
    }

    private static void roundsOfARoll() {
        Due.by("or (ITEMS), one at least, perhaps x and a digit 2 to 9 (so many times)");
        rollBehind("(", ITEM);
        rollBehind("((", ITEM);
        rollBehind("(a", ITEM + TIMES + "^,)");
        rollBehind("((a", ITEM + TIMES + "^,)");
        rollBehind("(a,", ITEM + ")");
        rollBehind("(a2^,", ITEM + ")");
        rollBehind("(a)", ITEM + "x");
        rollBehind("(a)x", TIMES);
        rollBehind("(a)x2", ITEM);
        rollBehind("(a)x9", ITEM);
        rollBehind("((a)", ITEM + "x)");
        rollBehind("((a)x2", ITEM + ")");
        rollBehind("((a))", ITEM + "x");
        for (int times = 2; times <= 9; times++) {
            ClockChoir x = new ClockChoir();
            Due.due("so many times", 2 * times, Due.roll(x, 0, "(ab)x" + times));
            for (int k = 0; k < 2 * times; k++) {
                Due.due("NOTE", 1 + k % 2, x.beat(0, k, 0));
                Due.due("begins", 1, x.beat(0, k, 3));
            }
        }
    }

    private static void endsOfARoll() {
        Due.by("1 what can't stand there (the end, too)");
        String[] open = {"(", "(a", "(a2", "(a^", "(a,", "((", "((a", "((a)", "((a)x2", "(a)x", "((a)x", "a(", "a(b)x"};
        for (String text : open) {
            Due.due("end of " + text, -1000 - text.length(), Due.roll(new ClockChoir(), 0, text));
        }
        String[] whole = {"a", "a2", "a^", "a,", "a^,", "(a)", "(a)x2", "((a))", "((a)x2)", "(a)a", "."};
        for (String text : whole) {
            Due.due("end of " + text, true, Due.roll(new ClockChoir(), 0, text) > 0);
        }
    }

    private static void rulesOfALaw() {
        Due.by("RULES (16 at most) with a ; (59) between two: a letter, E, and (C), of x only (C)");
        lawBehind("", KINDS);
        for (String kind : new String[] {"u", "v", "b", "c"}) {
            lawBehind(kind, WORTH);
            lawBehind(kind + "1", DIGITS + REST + "(");
            lawBehind(kind + "1(", TEST);
            lawBehind(kind + "1(s=s)", ";");
        }
        lawBehind("x", "(");
        lawBehind("x(", TEST);
        lawBehind("x(s=s)", ";");
        lawBehind("x(s=s);", KINDS);
        lawBehind("u1(s=s);x", "(");
        lawBehind("x(s=s);u", WORTH);
    }

    private static void worthsOfALaw() {
        Due.by("E: TERMS with + or - between two; a TERM: FACTORS with one of * / % between two; from the left on; a FACTOR: [E], a number of one to five digits, or a letter");
        for (char letter : "sdpanlkt".toCharArray()) {
            lawBehind("u" + letter, REST + "(");
        }
        lawBehind("u1234", DIGITS + REST + "(");
        // A sixth digit can stand there but for being the sixth: that is FAULT 2.
        lawBehind("u12345", DIGITS + REST + "(");
        for (char sign : REST.toCharArray()) {
            lawBehind("us" + sign, WORTH);
            lawBehind("us" + sign + "s", REST + "(");
            lawBehind("u[s" + sign, WORTH);
            lawBehind("x(s" + sign, WORTH);
            lawBehind("x(s=s" + sign, WORTH);
        }
        lawBehind("u[", WORTH);
        lawBehind("u[[", WORTH);
        lawBehind("u[s", REST + "]");
        lawBehind("u[1", DIGITS + REST + "]");
        lawBehind("u[s]", REST + "(");
        lawBehind("u[[s]", REST + "]");
    }

    private static void testsOfALaw() {
        Due.by("C: PARTS with a | between two, one of which must hold; a PART: TESTS with an & between two, all of which must; a TEST: !TEST, (C), or E, one of < > =, and E.");
        lawBehind("x(s", REST + COMPARE);
        lawBehind("x(1", DIGITS + REST + COMPARE);
        lawBehind("x(s+s", REST + COMPARE);
        for (char sign : COMPARE.toCharArray()) {
            lawBehind("x(s" + sign, WORTH);
            lawBehind("x(s" + sign + "s", REST + "&|)");
            lawBehind("x(s" + sign + "1", DIGITS + REST + "&|)");
        }
        lawBehind("x(s=s&", TEST);
        lawBehind("x(s=s|", TEST);
        lawBehind("x(s=s&s", REST + COMPARE);
        lawBehind("x(s=s&s=s", REST + "&|)");
        lawBehind("x(s=s|s=s", REST + "&|)");
        lawBehind("x(!", TEST);
        lawBehind("x(!s", REST + COMPARE);
        lawBehind("x(!s=s", REST + "&|)");
    }

    private static void bracketsOfALaw() {
        Due.by("a TEST: !TEST, (C), or E");
        lawBehind("x((", TEST);
        lawBehind("x((s", REST + COMPARE);
        lawBehind("x((s=s", REST + "&|)");
        lawBehind("x((s=s)", "&|)");
        lawBehind("x((s=s)&", TEST);
        lawBehind("x((s=s))", ";");
        lawBehind("x(!(s=s)", "&|)");
        lawBehind("x(!(", TEST);
        lawBehind("x([", WORTH);
        lawBehind("x([s", REST + "]");
        lawBehind("x([s]", REST + COMPARE);
        lawBehind("x([s]=", WORTH);
        lawBehind("x(s=[", WORTH);
        lawBehind("x(s=[s", REST + "]");
        lawBehind("x(s=[s]", REST + "&|)");
    }

    private static void endsOfALaw() {
        Due.by("1 what can't stand there (the end, too)");
        String[] open = {"u", "x", "us", "u1", "u12345", "u[", "u[s", "u[s]", "us+", "us*", "us(", "x(", "x(s", "x(1", "x(s=",
            "x(s=s", "x(s=1", "x(s=s&", "x(s=s|", "x(!", "x(!s", "x(!s=s", "x((", "x((s=s", "x((s=s)", "x([", "x([s", "x([s]",
            "x(s=s);", "x(s=s);u", "x(s=s);x(s=s"};
        for (String text : open) {
            Due.due("end of " + text, -1000 - text.length(), Due.law(new ClockChoir(), text));
        }
        String[] whole = {"x(s=s)", "u1(1=1)", "x((s=s))", "x(!s=s)"};
        for (String text : whole) {
            Due.due("end of " + text, 1, Due.law(new ClockChoir(), text));
            Due.due("end of two", 2, Due.law(new ClockChoir(), text + ";" + text));
        }
    }

    /** Where no more may be open, what would open one is the only thing that is not FAULT 1 but 5. */
    private static void openAtTheirMost() {
        Due.by("5 a seventh of ( [ ! that are open in one another, at it");
        for (String start : new String[] {"x((((((", "x(!!!!!", "x((!(!("}) {
            lawBehind(start, TEST);
            for (String sign : new String[] {"(", "!", "["}) {
                Due.due(start + sign, -5000 - start.length(), Due.law(new ClockChoir(), start + sign));
            }
        }
        for (String start : new String[] {"u[[[[[[", "x([[[[[", "x(s=[[[[["}) {
            lawBehind(start, WORTH);
            Due.due(start + "[", -5000 - start.length(), Due.law(new ClockChoir(), start + "["));
        }
        for (String start : new String[] {"x(((((s=", "x(((((s+"}) {
            lawBehind(start, WORTH);
            Due.due(start + "[", -1000 - start.length() - 1, Due.law(new ClockChoir(), start + "["));
            Due.due(start + "[[", -5000 - start.length() - 1, Due.law(new ClockChoir(), start + "[["));
        }
        Due.by("5 a third ( that is open in another one, at it");
        Due.due("((", -1002, Due.roll(new ClockChoir(), 0, "(("));
        Due.due("(((", -5002, Due.roll(new ClockChoir(), 0, "((("));
    }
}
