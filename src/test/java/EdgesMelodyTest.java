/** Edges of promises 11 to 13, 17 to 21 and 24 to 27, a method for each sentence. */
public final class EdgesMelodyTest {
    private static final String LONG = "(a)x9".repeat(6) + "a6";

    public static void main(String[] args) {
        boundsOfSingerIs();
        boundsOfDrift();
        boundsOfBeat();
        aSoundOrRestBegins();
        boundsOfSounds();
        whatSounds();
        clashes();
        boundsOfCanon();
        canonByItsDelay();
        theBestDelay();
        boundsOfReturns();
        returnsOfNone();
        aRowOfOneSound();
        theFirstSuchRow();
        theFirstThere();
        higherAndLower();
        theWholeTuneReturns();
        rowsEndWithTheirTunes();
        boundsOfBackwards();
        backwardsOfNone();
        backwardsOfSome();
        boundsOfRange();
        rangeOfSome();
        boundsOfAttacks();
        attacksOfTold();
        boundsOfKey();
        theKeyOfLikeOnes();
        boundsOfTune();
        aTuneHasEachSoundOnce();
        boundsOfBreaths();
        aSoundIsTooLong();
        noSuchPlace();
        noMoreThanK();
        restsDoNotCount();
        theLeastRow();
        Due.finish("EdgesMelodyTest");
    }

    private static ClockChoir rolls(String... texts) {
        ClockChoir x = new ClockChoir();
        for (int i = 0; i < texts.length; i++) {
            Due.roll(x, i, texts[i]);
        }
        return x;
    }

    // ---- 11 to 13

    private static void boundsOfSingerIs() {
        Due.by("Of a told SINGER, what 0 SEAT, 1 DEAF, 2 LUNGS, 3 AT, 4 PHASE, 5 BREATH, 6 MISSED, 7 WAITING (1, 0), 8 DONE (1, 0), 9 whom he HEARS (bits); NONE for others.");
        ClockChoir x = new ClockChoir();
        x.singer(0, 0, 9, 2, 8);
        x.singer(7, 0, 4, 0, 1);
        int[] due = {9, 2, 8, 0, 0, 8, 0, 0, 1, 128};
        for (int what = 0; what < 10; what++) {
            Due.due("singerIs(0, " + what + ")", due[what], x.singerIs(0, what));
            for (int i : Edges.around(0, 7)) {
                boolean told = i == 0 || i == 7;
                Due.due("singerIs(" + i + ", " + what + ")", told, x.singerIs(i, what) != -1);
            }
        }
        for (int what : Edges.around(0, 9)) {
            Due.due("singerIs(0, " + what + ")", Edges.within(what, 0, 9), x.singerIs(0, what) != -1);
            Due.due("singerIs(3, " + what + ")", -1, x.singerIs(3, what));
        }
    }

    private static void boundsOfDrift() {
        Due.by("DRIFT of a told SINGER; -100: no such one.");
        ClockChoir x = new ClockChoir();
        x.singer(0, -20, 0, 0, 1);
        x.singer(7, 20, 0, 0, 1);
        for (int i : Edges.around(0, 7)) {
            Due.due("drift(" + i + ")", i == 0 ? -20 : i == 7 ? 20 : -100, x.drift(i));
        }
    }

    private static void boundsOfBeat() {
        Due.by("Of the ROLL of SINGER i BEAT k (0 on)");
        ClockChoir x = rolls("abc", LONG);
        for (int k : Edges.around(0, 2)) {
            Due.due("beat(0, " + k + ", 0)", Edges.within(k, 0, 2) ? k + 1 : -1, x.beat(0, k, 0));
        }
        for (int k : Edges.around(0, 59)) {
            for (int what = 0; what < 4; what++) {
                int due = what == 0 || what == 3 ? 1 : 0;
                boolean can = Edges.within(k, 0, 59);
                boolean begins = what != 3 || k <= 54;
                Due.due("beat(1, " + k + ", " + what + ")", can ? begins ? due : 0 : -1, x.beat(1, k, what));
            }
        }
        for (int i : Edges.around(0, 7)) {
            Due.due("beat(" + i + ", 0, 0)", i == 0 || i == 1 ? 1 : -1, x.beat(i, 0, 0));
        }
        for (int what : Edges.around(0, 3)) {
            int[] due = {1, 0, 0, 1};
            Due.due("beat(0, 0, " + what + ")", Edges.within(what, 0, 3) ? due[what] : -1, x.beat(0, 0, what));
        }
    }

    private static void aSoundOrRestBegins() {
        Due.by("3 whether a sound (or rest) begins on it (1, 0)");
        ClockChoir x = rolls("a2a.2.(b)x2(c2)x2");
        int[] due = {1, 0, 1, 1, 0, 1, 1, 1, 1, 0, 1, 0};
        for (int k = 0; k < due.length; k++) {
            Due.due("beat(0, " + k + ", 3)", due[k], x.beat(0, k, 3));
        }
        Due.due("none behind", -1, x.beat(0, due.length, 3));
    }

    // ---- 17, 18

    private static void boundsOfSounds() {
        Due.by("WHAT SOUNDS, what 0 NOTES (bits), 1 CLASHES; NONE: no such what.");
        ClockChoir x = rolls("a", "b");
        for (int what : Edges.around(0, 1)) {
            Due.due("of nobody: sounds(" + what + ")", Edges.within(what, 0, 1) ? 0 : -1, x.sounds(what));
        }
        x.singer(0, 0, 0, 0, 1);
        x.singer(1, 0, 0, 0, 1);
        for (int what : Edges.around(0, 1)) {
            Due.due("sounds(" + what + ")", what == 0 ? 6 : what == 1 ? 1 : -1, x.sounds(what));
        }
    }

    private static void whatSounds() {
        Due.by("the NOTE of the BEAT each one is at who is not DONE, not WAITING: NOTES (bits 1 to 7)");
        ClockChoir x = rolls("a", "b", "c", "d", "e", "f", "g", ".");
        for (int i = 0; i < 8; i++) {
            x.singer(i, 0, 0, 0, 1);
            Due.due("NOTES", i < 7 ? (1 << i + 2) - 2 : 254, x.sounds(0));
        }
        Due.due("CLASHES: six neighbours, and a with g", 7, x.sounds(1));
        x.tempo(60);
        x.ticks(1);
        Due.due("all are DONE", 0, x.sounds(0));
        Due.due("none CLASH", 0, x.sounds(1));
        ClockChoir y = rolls("a^b", "...a^b");
        y.singer(0, 0, 0, 0, 1);
        y.singer(1, 0, 0, 0, 1);
        y.tempo(60);
        int[] notes = {2, 0, 0, 2, 0, 4, 0};
        for (int t = 0; t < notes.length; t++) {
            Due.due("NOTES behind " + t, notes[t], y.sounds(0));
            y.ticks(1);
        }
    }

    private static void clashes() {
        Due.by("how many twos of SINGERS CLASH: NOTES that are no rests and are 1 or 6 apart");
        String signs = ".abcdefg";
        for (int one = 0; one < 8; one++) {
            for (int other = 0; other < 8; other++) {
                ClockChoir x = rolls("" + signs.charAt(one), "" + signs.charAt(other));
                x.singer(0, 0, 0, 0, 1);
                x.singer(1, 0, 15, 3, 1);
                int apart = Math.abs(one - other);
                boolean due = one > 0 && other > 0 && (apart == 1 || apart == 6);
                Due.due(signs.charAt(one) + " and " + signs.charAt(other), due ? 1 : 0, x.sounds(1));
                Due.due("CANON", due ? 1 : 0, x.canon(0, 1, 0));
            }
        }
        ClockChoir y = rolls("a", "a", "a", "a", "b", "b", "b", "b");
        for (int i = 0; i < 8; i++) {
            y.singer(i, 0, 0, 0, 1);
        }
        Due.due("four and four", 16, y.sounds(1));
    }

    private static void boundsOfCanon() {
        Due.by("CANON of ROLLS of SINGERS i and j (0 to 7), what 0 to 59 how many CLASH by that delay, 100 the best delay (0 to 59), 101 how many then; NONE: no such ones.");
        ClockChoir x = rolls("a", "b");
        for (int what : Edges.around(0, 59)) {
            Due.due("canon(0, 1, " + what + ")", what == 0 ? 1 : Edges.within(what, 0, 59) ? 0 : -1, x.canon(0, 1, what));
        }
        for (int what : Edges.around(100, 101)) {
            int due = what == 100 ? 1 : what == 101 ? 0 : what == 0 ? 1 : -1;
            Due.due("canon(0, 1, " + what + ")", due, x.canon(0, 1, what));
        }
        for (int i : Edges.around(0, 7)) {
            boolean can = Edges.within(i, 0, 7);
            Due.due("canon(" + i + ", 1, 0)", !can ? -1 : i == 0 ? 1 : 0, x.canon(i, 1, 0));
            Due.due("canon(0, " + i + ", 0)", !can ? -1 : i == 1 ? 1 : 0, x.canon(0, i, 0));
            Due.due("canon(" + i + ", 1, 100)", !can ? -1 : i == 0 ? 1 : 0, x.canon(i, 1, 100));
        }
    }

    private static void canonByItsDelay() {
        Due.by("CANON: a second ROLL begins so many BEATS behind a first one (0 to 59): how many BEATS CLASH");
        ClockChoir x = rolls(LONG, LONG.replace('a', 'b'), "a", LONG.replace("a6", "a5b"));
        for (int delay = 0; delay < 60; delay++) {
            Due.due("canon(0, 1, " + delay + ")", 60 - delay, x.canon(0, 1, delay));
            Due.due("the last BEAT alone, by " + delay, delay == 59 ? 1 : 0, x.canon(3, 2, delay));
        }
        Due.due("a short first one", 1, x.canon(2, 1, 0));
        Due.due("a short first one", 0, x.canon(2, 1, 1));
    }

    private static void theBestDelay() {
        Due.by("the delay by which fewest do (of like ones the least), how many");
        ClockChoir x = rolls(LONG, LONG.replace('a', 'b'), "ab", "ba", "aba", "bab");
        Due.due("the last delay", 59, x.canon(0, 1, 100));
        Due.due("one", 1, x.canon(0, 1, 101));
        Due.due("no ROLLS", 0, x.canon(6, 7, 100));
        Due.due("none", 0, x.canon(6, 7, 101));
        Due.due("by 0 both, by 1 none", 1, x.canon(2, 3, 100));
        Due.due("of like ones the least", 0, x.canon(2, 2, 100));
        Due.due("by 0 three, by 1 none", 1, x.canon(4, 5, 100));
        Due.due("none", 0, x.canon(4, 5, 101));
    }

    // ---- 19, 20, 21

    private static void dueReturns(ClockChoir x, int i, int j, int many, int first, int second, int higher) {
        int[] due = {many, first, second, higher};
        for (int what = 0; what < 4; what++) {
            Due.due("returns(" + i + ", " + j + ", " + what + ")", due[what], x.returns(i, j, what));
        }
    }

    private static void boundsOfReturns() {
        Due.by("RETURNS of ROLLS of SINGERS i and j (0 to 7)");
        ClockChoir x = rolls("ab", "bc");
        int[] due = {2, 0, 0, 1};
        for (int what : Edges.around(0, 3)) {
            boolean can = Edges.within(what, 0, 3);
            Due.due("returns(0, 1, " + what + ")", can ? due[what] : -1000, x.returns(0, 1, what));
            Due.due("returns(5, 6, " + what + ")", !can ? -1000 : what == 0 ? 0 : -2000, x.returns(5, 6, what));
        }
        for (int i : Edges.around(0, 7)) {
            boolean can = Edges.within(i, 0, 7);
            boolean sounds = i == 0 || i == 1;
            Due.due("returns(" + i + ", 1, 0)", can ? sounds ? 2 : 0 : -1000, x.returns(i, 1, 0));
            Due.due("returns(0, " + i + ", 3)", !can ? -1000 : sounds ? i : -2000, x.returns(0, i, 3));
        }
    }

    private static void returnsOfNone() {
        Due.by("what 0 how many sounds (0: one has none)");
        ClockChoir x = rolls("ab", "...", ".");
        for (int[] two : new int[][] {{0, 1}, {1, 0}, {1, 2}, {0, 7}, {7, 0}, {6, 7}, {1, 1}}) {
            dueReturns(x, two[0], two[1], 0, -2000, -2000, -2000);
        }
    }

    private static void aRowOfOneSound() {
        Due.by("(a row of one sound has no steps: 1, if both have a sound)");
        ClockChoir x = rolls("a", ".g9.", "ag", "ab", "edcba", "aaa");
        dueReturns(x, 0, 1, 1, 0, 0, 6);
        dueReturns(x, 1, 0, 1, 0, 0, -6);
        dueReturns(x, 2, 3, 1, 0, 0, 0);
        dueReturns(x, 4, 3, 1, 0, 0, -4);
        dueReturns(x, 5, 4, 1, 0, 0, 4);
        dueReturns(x, 0, 0, 1, 0, 0, 0);
    }

    private static void theFirstSuchRow() {
        Due.by("where in the first one (the first such row)");
        ClockChoir x = rolls("abab", "fg", "gabgab", "cd", "ffabc", "bcd");
        dueReturns(x, 0, 1, 2, 0, 0, 5);
        dueReturns(x, 2, 3, 2, 1, 0, 2);
        dueReturns(x, 4, 5, 3, 2, 0, 1);
    }

    private static void theFirstThere() {
        Due.by("by how many NOTES higher it is in the other one (the first there; below 0: lower)");
        ClockChoir x = rolls("cd", "gfefab", "efgabcabc", "abc");
        dueReturns(x, 0, 1, 2, 0, 2, 2);
        dueReturns(x, 3, 2, 3, 0, 0, 4);
        dueReturns(x, 2, 3, 3, 0, 0, -4);
    }

    private static void higherAndLower() {
        Due.by("3 how much higher; -1000: no such ones; -2000 (of 1 to 3): there is none.");
        ClockChoir x = rolls("aa", "gg", "abcdefg", "gfedcba");
        dueReturns(x, 0, 1, 2, 0, 0, 6);
        dueReturns(x, 1, 0, 2, 0, 0, -6);
        dueReturns(x, 2, 3, 1, 0, 0, 6);
        dueReturns(x, 3, 3, 7, 0, 0, 0);
    }

    private static void theWholeTuneReturns() {
        Due.by("the longest row of sounds in the TUNE of one whose steps (from each to the next, by how many NOTES up or down) stand so in another's");
        ClockChoir x = rolls(LONG.replace("a6", "abcdef"), LONG.replace("a6", "abcdef"), LONG.replace("a6", "bcdefg").replace("(a)", "(b)"), "(g)x9".repeat(6) + "abcdef");
        dueReturns(x, 0, 1, 60, 0, 0, 0);
        dueReturns(x, 0, 2, 60, 0, 0, 1);
        // The row of like notes is 55 long in 0, 54 in 3.
        dueReturns(x, 0, 3, 54, 0, 0, 6);
        dueReturns(x, 3, 0, 54, 0, 0, -6);
    }

    private static void rowsEndWithTheirTunes() {
        Due.by("the longest row of sounds in the TUNE of one");
        ClockChoir x = rolls("abcdefg", "ab", "abc", "bcdefg", "fg", "g");
        int[] sounds = {7, 2, 3, 6, 2, 1};
        for (int i = 0; i < sounds.length; i++) {
            for (int j = 0; j < sounds.length; j++) {
                // Longer TUNES were asked ahead of it: of these nothing may be left.
                Due.due("long ones", 7, x.returns(0, 0, 0));
                Due.due("returns(" + i + ", " + j + ", 0)", Math.min(sounds[i], sounds[j]), x.returns(i, j, 0));
                Due.due("returns(" + i + ", " + j + ", 1)", 0, x.returns(i, j, 1));
                Due.due("returns(" + i + ", " + j + ", 2)", 0, x.returns(i, j, 2));
            }
        }
    }

    private static void boundsOfBackwards() {
        Due.by("BACKWARDS: 1, 0 (none of both has a sound: 1); NONE: no such ones (0 to 7).");
        ClockChoir x = rolls("ab", "ba");
        for (int i : Edges.around(0, 7)) {
            boolean can = Edges.within(i, 0, 7);
            Due.due("backwards(" + i + ", 1)", !can ? -1 : i == 0 ? 1 : 0, x.backwards(i, 1));
            Due.due("backwards(0, " + i + ")", !can ? -1 : i == 1 ? 1 : 0, x.backwards(0, i));
            Due.due("backwards(" + i + ", " + i + ")", !can ? -1 : i < 2 ? 0 : 1, x.backwards(i, i));
        }
    }

    private static void backwardsOfNone() {
        Due.by("(none of both has a sound: 1)");
        ClockChoir x = rolls("...", ".", "a");
        Due.due("rests alone", 1, x.backwards(0, 1));
        Due.due("rests and no ROLL", 1, x.backwards(0, 7));
        Due.due("no ROLLS", 1, x.backwards(6, 7));
        Due.due("one has a sound", 0, x.backwards(0, 2));
        Due.due("one has a sound", 0, x.backwards(2, 7));
    }

    private static void backwardsOfSome() {
        Due.by("BACKWARDS: whether one's TUNE is another's backwards.");
        ClockChoir x = rolls("abc", ".c3b^..a,", "cba", "bc", "ab", LONG, "abcb", "bcba");
        Due.due("lengths and rests do not matter", 1, x.backwards(0, 1));
        Due.due("not itself", 0, x.backwards(0, 0));
        Due.due("not another row of like sounds", 0, x.backwards(1, 2));
        Due.due("a sound fewer", 0, x.backwards(2, 3));
        Due.due("a sound more", 0, x.backwards(4, 2));
        Due.due("60 sounds", 1, x.backwards(5, 5));
        Due.due("four", 1, x.backwards(6, 7));
        Due.due("not higher", 0, x.backwards(3, 4));
        ClockChoir y = rolls("abcd", "dcba", "dcbg", "gcba", "dgba", "dcga");
        int[] due = {0, 1, 0, 0, 0, 0};
        for (int j = 0; j < due.length; j++) {
            Due.due("one alone is not so: backwards(0, " + j + ")", due[j], y.backwards(0, j));
            Due.due("one alone is not so: backwards(" + j + ", 0)", due[j], y.backwards(j, 0));
        }
    }

    private static void boundsOfRange() {
        Due.by("RANGE of the ROLL of SINGER i (0 to 7); -2: no sound; NONE: no such one.");
        ClockChoir x = rolls("ac", "...");
        for (int i : Edges.around(0, 7)) {
            Due.due("range(" + i + ")", !Edges.within(i, 0, 7) ? -1 : i == 0 ? 2 : -2, x.range(i));
        }
    }

    private static void rangeOfSome() {
        Due.by("RANGE: the highest less the lowest NOTE of a TUNE.");
        String[] texts = {"a", "g", ".g.", "ag", "ga", "b.f", "dddd", "c9d^,e"};
        int[] due = {0, 0, 0, 6, 6, 4, 0, 2};
        ClockChoir x = rolls(texts);
        for (int i = 0; i < texts.length; i++) {
            Due.due("range of " + texts[i], due[i], x.range(i));
        }
    }

    // ---- 24, 25, 26

    private static void boundsOfAttacks() {
        Due.by("ATTACKS on BEAT k (0 to 59); NONE: no such one.");
        ClockChoir x = rolls("a".repeat(60));
        ClockChoir nobody = rolls("a".repeat(60));
        x.singer(0, 0, 0, 0, 1);
        for (int k : Edges.around(0, 59)) {
            boolean can = Edges.within(k, 0, 59);
            Due.due("attacks(" + k + ")", can ? 1 : -1, x.attacks(k));
            Due.due("nobody is told", can ? 0 : -1, nobody.attacks(k));
        }
    }

    private static void attacksOfTold() {
        Due.by("ATTACKS on a BEAT: how many ROLLS of told SINGERS begin a sound on it.");
        ClockChoir x = rolls("aa", "a2", ".a", ".2", "a", "(a)x2", "aa", "aa");
        int[] first = {1, 2, 2, 2, 3, 4, 5, 6};
        int[] second = {1, 1, 2, 2, 2, 3, 4, 5};
        for (int i = 0; i < 8; i++) {
            x.singer(i, 0, 0, 0, 1);
            Due.due("on BEAT 0", first[i], x.attacks(0));
            Due.due("on BEAT 1", second[i], x.attacks(1));
            Due.due("on BEAT 2", 0, x.attacks(2));
        }
        x.tempo(60);
        x.ticks(9);
        Due.due("of DONE ones, too", 6, x.attacks(0));
    }

    private static void boundsOfKey() {
        Due.by("THE KEY of the ROLL of SINGER i (0 to 7), what 0 the NOTE (-2: no sound), 1 on how many BEATS (0: no sound); NONE: no such ones.");
        ClockChoir x = rolls("cc", "...");
        for (int i : Edges.around(0, 7)) {
            boolean can = Edges.within(i, 0, 7);
            Due.due("key(" + i + ", 0)", !can ? -1 : i == 0 ? 3 : -2, x.key(i, 0));
            Due.due("key(" + i + ", 1)", !can ? -1 : i == 0 ? 2 : 0, x.key(i, 1));
        }
        for (int what : Edges.around(0, 1)) {
            Due.due("key(0, " + what + ")", what == 0 ? 3 : what == 1 ? 2 : -1, x.key(0, what));
            Due.due("key(1, " + what + ")", what == 0 ? -2 : what == 1 ? 0 : -1, x.key(1, what));
        }
    }

    private static void theKeyOfLikeOnes() {
        Due.by("THE KEY: the NOTE that is sung on most BEATS of a ROLL (of like ones the lowest); on how many.");
        String[] texts = {"g", "ga", "ggaa", "g2a", ".9a", "a2b2c2", "gab2", LONG};
        int[] notes = {7, 1, 1, 7, 1, 1, 2, 1};
        int[] beats = {1, 1, 2, 2, 1, 2, 2, 60};
        ClockChoir x = rolls(texts);
        for (int i = 0; i < 8; i++) {
            Due.due("key of " + texts[i], notes[i], x.key(i, 0));
            Due.due("on how many", beats[i], x.key(i, 1));
        }
    }

    private static void boundsOfTune() {
        Due.by("Sounds in the TUNE of SINGER i's ROLL: NOTE k (0 on) of it; -2: there are not so many; NONE: no such ones.");
        ClockChoir x = rolls("abc", "...", LONG.replace("a6", "aaaaag"));
        for (int k : Edges.around(0, 2)) {
            Due.due("tune(0, " + k + ")", k < 0 ? -1 : k < 3 ? k + 1 : -2, x.tune(0, k));
            Due.due("tune(1, " + k + ")", k < 0 ? -1 : -2, x.tune(1, k));
            Due.due("tune(7, " + k + ")", k < 0 ? -1 : -2, x.tune(7, k));
        }
        for (int k : Edges.around(0, 59)) {
            Due.due("tune(2, " + k + ")", k < 0 ? -1 : k < 59 ? 1 : k == 59 ? 7 : -2, x.tune(2, k));
        }
        for (int i : Edges.around(0, 7)) {
            Due.due("tune(" + i + ", 0)", !Edges.within(i, 0, 7) ? -1 : i == 0 || i == 2 ? 1 : -2, x.tune(i, 0));
        }
    }

    private static void aTuneHasEachSoundOnce() {
        Due.by("A TUNE: the sounds of a ROLL one behind the other (each once, however long; rests are left out).");
        ClockChoir x = rolls(".2a9aa2.b^,.(c2)x2.");
        int[] due = {1, 1, 1, 2, 3, 3, -2};
        for (int k = 0; k < due.length; k++) {
            Due.due("tune(0, " + k + ")", due[k], x.tune(0, k));
        }
    }

    // ---- 27

    private static void dueBreaths(ClockChoir x, int i, int k, int... places) {
        Due.due("breaths(" + i + ", " + k + ", 100)", places.length, x.breaths(i, k, 100));
        for (int p = 0; p < places.length; p++) {
            Due.due("breaths(" + i + ", " + k + ", " + p + ")", places[p], x.breaths(i, k, p));
        }
        if (places.length < 60) {
            Due.due("breaths(" + i + ", " + k + ", " + places.length + ")", -4, x.breaths(i, k, places.length));
        }
    }

    private static void boundsOfBreaths() {
        Due.by("BREATHS in the ROLL of SINGER i (0 to 7), no more than k BEATS (1 to 20), what 100 how many, else behind how many BEATS the one at place what (0 to 59) is");
        ClockChoir x = rolls("ab");
        for (int i : Edges.around(0, 7)) {
            Due.due("breaths(" + i + ", 1, 100)", !Edges.within(i, 0, 7) ? -1 : i == 0 ? 1 : 0, x.breaths(i, 1, 100));
        }
        for (int k : Edges.around(1, 20)) {
            Due.due("breaths(0, " + k + ", 100)", !Edges.within(k, 1, 20) ? -1 : k == 1 ? 1 : 0, x.breaths(0, k, 100));
        }
        for (int what : Edges.around(0, 59)) {
            Due.due("breaths(0, 1, " + what + ")", !Edges.within(what, 0, 59) ? -1 : what == 0 ? 1 : -4, x.breaths(0, 1, what));
        }
        for (int what : new int[] {99, 101, 356, 65636, 100 + (1 << 31)}) {
            Due.due("breaths(0, 1, " + what + ")", -1, x.breaths(0, 1, what));
        }
    }

    private static void aSoundIsTooLong() {
        Due.by("-2: it can't be (a sound is too long)");
        for (int beats = 2; beats <= 9; beats++) {
            ClockChoir x = rolls("a" + beats, "ab" + beats, "a" + beats + "b", "a.9b" + beats + ".");
            for (int k = 1; k <= 20; k++) {
                for (int i = 0; i < 4; i++) {
                    Due.due("a sound of " + beats + " by " + k, k < beats, x.breaths(i, k, 100) == -2);
                }
            }
            for (int what : new int[] {0, 1, 59}) {
                Due.due("its places", -2, x.breaths(0, beats - 1, what));
                Due.due("its places", -4, x.breaths(0, beats, what));
            }
            Due.due("it can't be", -2, x.breaths(0, beats - 1, 100));
            Due.due("behind it a ROLL without a sound", 0, x.breaths(7, beats - 1, 100));
            Due.due("no such ones all the same", -1, x.breaths(0, beats - 1, 60));
            Due.due("no such ones all the same", -1, x.breaths(0, 0, 0));
        }
    }

    private static void noSuchPlace() {
        Due.by("-4: no such place");
        ClockChoir x = rolls("a".repeat(60), "...");
        for (int place = 0; place < 59; place++) {
            Due.due("breaths(0, 1, " + place + ")", place + 1, x.breaths(0, 1, place));
        }
        Due.due("how many", 59, x.breaths(0, 1, 100));
        Due.due("none at the last place", -4, x.breaths(0, 1, 59));
        dueBreaths(x, 0, 20, 20, 40);
        dueBreaths(x, 0, 19, 3, 22, 41);
        dueBreaths(x, 1, 1);
        dueBreaths(x, 7, 20);
    }

    private static void noMoreThanK() {
        Due.by("so that no more than k BEATS (1 to 20) that are no rests are sung between two (or ahead of the first, behind the last one), each behind the last BEAT of a sound: the fewest");
        ClockChoir x = rolls("(a)x9(a)x9aa", "(a)x9(a)x9aaa", "a3b3c3", "a2b3c2");
        dueBreaths(x, 0, 20);
        dueBreaths(x, 1, 20, 1);
        dueBreaths(x, 0, 19, 1);
        dueBreaths(x, 2, 9);
        dueBreaths(x, 2, 8, 3);
        dueBreaths(x, 2, 6, 3);
        dueBreaths(x, 2, 5, 3, 6);
        dueBreaths(x, 2, 3, 3, 6);
        dueBreaths(x, 3, 7);
        dueBreaths(x, 3, 6, 2);
        dueBreaths(x, 3, 5, 2);
        dueBreaths(x, 3, 4, 2, 5);
    }

    private static void restsDoNotCount() {
        Due.by("BEATS (1 to 20) that are no rests");
        ClockChoir x = rolls("a.9.9b", ".9a.9b.9", ".2a2.b");
        dueBreaths(x, 0, 2);
        dueBreaths(x, 0, 1, 1);
        dueBreaths(x, 1, 2);
        dueBreaths(x, 1, 1, 10);
        dueBreaths(x, 2, 3);
        dueBreaths(x, 2, 2, 4);
    }

    private static void theLeastRow() {
        Due.by("of like ones the least row (by BEATS: behind how many)");
        ClockChoir x = rolls("abcde", "a2bcd2e", "ab4cd", "a4b");
        dueBreaths(x, 0, 4, 1);
        dueBreaths(x, 0, 3, 2);
        dueBreaths(x, 0, 2, 1, 3);
        dueBreaths(x, 1, 4, 3);
        dueBreaths(x, 1, 5, 2);
        dueBreaths(x, 1, 3, 2, 4);
        dueBreaths(x, 2, 4, 1, 5);
        dueBreaths(x, 2, 6, 1);
        dueBreaths(x, 3, 4, 4);
    }
}
