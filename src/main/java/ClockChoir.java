/**
 * A choir of singers whose clocks are wrong. The document's promises say what each call answers;
 * words in capitals in the comments here are the document's terms.
 *
 * All rows are made with the object and used again, so that no call makes an object.
 */
public final class ClockChoir {
    public static final int NONE = -1;

    private static final int CROWD = 8;
    private static final int NOT_THERE = -2;
    private static final int NO_PLACE = -4;
    private static final int NO_DRIFT = -100;
    private static final int NO_SUCH_RETURN = -1000;
    private static final int NO_RETURN = -2000;
    private static final int WHOLE = 100;
    private static final int MOST_TICKS = 240;
    private static final int MOST_SECONDS = 100000;
    private static final int DIAL = 43200;

    private final Tape tape;
    private final Score score;
    private final RollReader rollReader;
    private final LawReader lawReader;
    private final Conductor conductor;
    private final Stage stage;
    private final Stage trial;
    private final Stage kept;
    private boolean wasKept;
    private final Circle circle;
    private final Tunes tunes;
    private final Breather breather;

    public ClockChoir() {
        tape = new Tape();
        score = new Score();
        rollReader = new RollReader(tape, score.spareRoll);
        lawReader = new LawReader(tape, score.spareLaw);
        conductor = new Conductor(score);
        stage = new Stage();
        trial = new Stage();
        kept = new Stage();
        circle = new Circle();
        tunes = new Tunes();
        breather = new Breather();
    }

    // ---- what is told

    public boolean singer(int i, int drift, int seat, int deaf, int lungs) {
        if (!isSinger(i) || !within(drift, -20, 20) || !within(seat, 0, 15)
                || !within(deaf, 0, 3) || !within(lungs, 1, 20)) {
            return false;
        }
        Singer one = stage.singers[i];
        one.told = true;
        one.drift = drift;
        one.seat = seat;
        one.deaf = deaf;
        one.lungs = lungs;
        one.begin();
        return true;
    }

    public boolean ears(int n) {
        if (!within(n, 0, 15)) {
            return false;
        }
        score.ears = n;
        return true;
    }

    public boolean tempo(int n) {
        if (!within(n, 60, 600)) {
            return false;
        }
        score.tempo = n;
        return true;
    }

    public int anew() {
        for (int i = 0; i < CROWD; i++) {
            stage.singers[i].begin();
        }
        return Integer.bitCount(stage.toldBits());
    }

    public int feed(int a, int b, int c, int d, int e) {
        if (!tape.hasRoomFor(20)) {
            return NONE;
        }
        tape.put(a);
        tape.put(b);
        tape.put(c);
        tape.put(d);
        tape.put(e);
        return tape.length();
    }

    public int law(int n) {
        if (!within(n, 1, Law.MOST_BYTES) || n > tape.length()) {
            return NONE;
        }
        int answer = lawReader.readLaw(n, score.spareLaw);
        tape.clear();
        if (answer > 0) {
            score.takeSpareLaw();
        }
        return answer;
    }

    public int roll(int i, int n) {
        if (!isSinger(i) || !within(n, 1, Roll.MOST_BYTES) || n > tape.length()) {
            return NONE;
        }
        int answer = rollReader.readRoll(n, score.spareRoll);
        tape.clear();
        if (answer > 0) {
            score.takeSpareRoll(i);
            stage.singers[i].begin();
        }
        return answer;
    }

    // ---- what is sung and what is tried

    public int ticks(int n) {
        if (!areTicks(n)) {
            return NONE;
        }
        conductor.forget();
        for (int t = 0; t < n; t++) {
            conductor.step(stage);
        }
        return conductor.sung;
    }

    public int tried(int n, int what) {
        boolean ofAll = within(what, 0, 3);
        boolean ofOne = within(what, 10, 39) && stage.isTold(what % 10);
        if (!areTicks(n) || !ofAll && !ofOne) {
            return NONE;
        }
        conductor.forget();
        trial.copyFrom(stage);
        for (int t = 0; t < n; t++) {
            conductor.step(trial);
        }
        return ofAll ? triedByAll(what) : triedByOne(what % 10, what / 10);
    }

    private int triedByAll(int what) {
        switch (what) {
            case 0:
                return conductor.sung;
            case 1:
                return conductor.missed;
            case 2:
                return conductor.coughs;
            default:
                return Integer.bitCount(trial.waitingBits());
        }
    }

    private int triedByOne(int i, int tens) {
        Singer one = trial.singers[i];
        switch (tens) {
            case 1:
                return one.at;
            case 2:
                return one.phase;
            default:
                return one.breath;
        }
    }

    // ---- who is where

    public int singerIs(int i, int what) {
        if (!stage.isTold(i)) {
            return NONE;
        }
        Singer one = stage.singers[i];
        switch (what) {
            case 0:
                return one.seat;
            case 1:
                return one.deaf;
            case 2:
                return one.lungs;
            case 3:
                return one.at;
            case 4:
                return one.phase;
            case 5:
                return one.breath;
            case 6:
                return one.missed;
            case 7:
                return one.waiting ? 1 : 0;
            case 8:
                return conductor.isDone(stage, i) ? 1 : 0;
            case 9:
                return stage.heardBits(i, score.ears);
            default:
                return NONE;
        }
    }

    public int drift(int i) {
        return stage.isTold(i) ? stage.singers[i].drift : NO_DRIFT;
    }

    public int beat(int i, int k, int what) {
        if (!isSinger(i) || !within(k, 0, score.rolls[i].length() - 1)) {
            return NONE;
        }
        Roll roll = score.rolls[i];
        switch (what) {
            case 0:
                return roll.noteAt(k);
            case 1:
                return roll.hasFermata(k) ? 1 : 0;
            case 2:
                return roll.hasBreath(k) ? 1 : 0;
            case 3:
                return roll.begins(k) ? 1 : 0;
            default:
                return NONE;
        }
    }

    // ---- how it will go

    public int end(int n, int what) {
        int told = stage.toldBits();
        if (!areTicks(n) || !within(what, 0, 1) || told == 0) {
            return NONE;
        }
        int done = conductor.doneBits(stage);
        if (done == told) {
            return what == 0 ? 0 : NOT_THERE;
        }
        trial.copyFrom(stage);
        for (int t = 1; t <= n; t++) {
            conductor.step(trial);
            int now = conductor.doneBits(trial);
            if (now == told) {
                return what == 0 ? t : highest(now & ~done);
            }
            done = now;
        }
        return NOT_THERE;
    }

    public int spread(int n) {
        if (!areTicks(n)) {
            return NONE;
        }
        trial.copyFrom(stage);
        int most = 0;
        for (int t = 0; t < n && conductor.step(trial); t++) {
            most = Math.max(most, conductor.apart(trial));
        }
        return most;
    }

    public int firstCome(int n, int what) {
        if (!areTicks(n) || !within(what, 0, 1)) {
            return NONE;
        }
        trial.copyFrom(stage);
        for (int t = 0; t <= n; t++) {
            if (trial.waitingBits() != 0) {
                return what == 0 ? lowest(trial.waitingBits()) : t;
            }
            if (t < n) {
                conductor.step(trial);
            }
        }
        return NOT_THERE;
    }

    public int together(int i, int j, int n) {
        if (!stage.isTold(i) || !stage.isTold(j) || i == j || !areTicks(n)) {
            return NONE;
        }
        trial.copyFrom(stage);
        int same = 0;
        for (int t = 0; t < n && conductor.step(trial); t++) {
            if (trial.singers[i].at == trial.singers[j].at) {
                same++;
            }
        }
        return same;
    }

    public int alone(int i) {
        if (!stage.isTold(i)) {
            return NONE;
        }
        // DRIFT is -20 at least, so a TICK brings 40 at least.
        int speed = Math.max(1, stage.singers[i].speed());
        return (score.rolls[i].length() * score.tempo + speed - 1) / speed;
    }

    // ---- what sounds

    public int sounds(int what) {
        if (!within(what, 0, 1)) {
            return NONE;
        }
        int notes = 0;
        int clashes = 0;
        for (int i = 0; i < CROWD; i++) {
            int note = conductor.noteNow(stage, i);
            if (note != 0) {
                notes |= 1 << note;
            }
            for (int j = 0; j < i; j++) {
                if (clash(note, conductor.noteNow(stage, j))) {
                    clashes++;
                }
            }
        }
        return what == 0 ? notes : clashes;
    }

    public int canon(int i, int j, int what) {
        boolean ofDelay = within(what, 0, 59);
        boolean ofBest = within(what, WHOLE, WHOLE + 1);
        if (!isSinger(i) || !isSinger(j) || !ofDelay && !ofBest) {
            return NONE;
        }
        Roll first = score.rolls[i];
        Roll second = score.rolls[j];
        if (ofDelay) {
            return clashesBy(first, second, what);
        }
        int best = 0;
        int fewest = clashesBy(first, second, 0);
        for (int delay = 1; delay < 60; delay++) {
            int some = clashesBy(first, second, delay);
            if (some < fewest) {
                fewest = some;
                best = delay;
            }
        }
        return what == WHOLE ? best : fewest;
    }

    public int attacks(int k) {
        if (!within(k, 0, 59)) {
            return NONE;
        }
        int some = 0;
        for (int i = 0; i < CROWD; i++) {
            if (stage.isTold(i) && score.rolls[i].beginsSound(k)) {
                some++;
            }
        }
        return some;
    }

    // ---- melodies

    public int returns(int i, int j, int what) {
        if (!isSinger(i) || !isSinger(j) || !within(what, 0, 3)) {
            return NO_SUCH_RETURN;
        }
        tunes.compare(score.rolls[i], score.rolls[j]);
        if (what == 0) {
            return tunes.longest;
        }
        if (tunes.longest == 0) {
            return NO_RETURN;
        }
        switch (what) {
            case 1:
                return tunes.inFirst;
            case 2:
                return tunes.inSecond;
            default:
                return tunes.higher;
        }
    }

    public int backwards(int i, int j) {
        if (!isSinger(i) || !isSinger(j)) {
            return NONE;
        }
        return tunes.areMirrored(score.rolls[i], score.rolls[j]) ? 1 : 0;
    }

    public int range(int i) {
        if (!isSinger(i)) {
            return NONE;
        }
        Roll roll = score.rolls[i];
        int high = 0;
        int low = 8;
        for (int k = 0; k < roll.length(); k++) {
            int note = roll.noteAt(k);
            if (note != 0) {
                high = Math.max(high, note);
                low = Math.min(low, note);
            }
        }
        return high == 0 ? NOT_THERE : high - low;
    }

    public int key(int i, int what) {
        if (!isSinger(i) || !within(what, 0, 1)) {
            return NONE;
        }
        int best = NOT_THERE;
        int most = 0;
        for (int note = 1; note <= 7; note++) {
            int some = score.rolls[i].beatsOf(note);
            if (some > most) {
                most = some;
                best = note;
            }
        }
        return what == 0 ? best : most;
    }

    public int tune(int i, int k) {
        if (!isSinger(i) || k < 0) {
            return NONE;
        }
        Roll roll = score.rolls[i];
        int before = 0;
        for (int at = 0; at < roll.length(); at++) {
            if (roll.beginsSound(at)) {
                if (before == k) {
                    return roll.noteAt(at);
                }
                before++;
            }
        }
        return NOT_THERE;
    }

    public int breaths(int i, int k, int what) {
        if (!isSinger(i) || !within(k, 1, 20) || !within(what, 0, 59) && what != WHOLE) {
            return NONE;
        }
        if (!breather.plan(score.rolls[i], k)) {
            return NOT_THERE;
        }
        if (what == WHOLE) {
            return breather.fewest();
        }
        return what < breather.fewest() ? breather.placeOf(what) : NO_PLACE;
    }

    // ---- clocks

    public int clock(int i, int t) {
        if (!stage.isTold(i) || !within(t, 0, MOST_SECONDS)) {
            return NONE;
        }
        return stage.singers[i].secondsShown(t) % DIAL;
    }

    public int meet(int i, int j) {
        if (!stage.isTold(i) || !stage.isTold(j) || i == j) {
            return NONE;
        }
        int dial = DIAL * 60;
        int between = Math.abs(stage.singers[i].drift - stage.singers[j].drift);
        int common = commonDivisor(dial, between);
        return common < 1 ? NONE : dial / common;
    }

    public int agree(int t, int apart, int what) {
        if (!within(t, 0, MOST_SECONDS) || !within(apart, 0, 9999) || !within(what, 0, 1)) {
            return NONE;
        }
        int told = stage.toldBits();
        int best = 0;
        for (int some = 1; some < 1 << CROWD; some++) {
            boolean more = Integer.bitCount(some) > Integer.bitCount(best);
            if (more && (some & ~told) == 0 && clocksApart(some, t) <= apart) {
                best = some;
            }
        }
        return what == 0 ? Integer.bitCount(best) : best;
    }

    private int clocksApart(int some, int t) {
        int least = 2 * MOST_SECONDS;
        int most = 0;
        for (int i = 0; i < CROWD; i++) {
            if ((some >> i & 1) != 0) {
                int shown = stage.singers[i].secondsShown(t);
                least = Math.min(least, shown);
                most = Math.max(most, shown);
            }
        }
        return most - least;
    }

    // ---- who leads whom

    public int leads(int i) {
        if (!stage.isTold(i)) {
            return NONE;
        }
        circle.listen(stage, score.ears);
        return circle.followersOf(i);
    }

    public int groups(int what) {
        if (what != WHOLE && !stage.isTold(what)) {
            return NONE;
        }
        circle.listen(stage, score.ears);
        if (what != WHOLE) {
            return circle.groupOf(what);
        }
        int some = 0;
        for (int i = 0; i < CROWD; i++) {
            // Each group is counted at its lowest SINGER.
            if (stage.isTold(i) && lowest(circle.groupOf(i)) == i) {
                some++;
            }
        }
        return some;
    }

    public int order(int what) {
        if (!within(what, 0, 1)) {
            return NONE;
        }
        int most = 0;
        int wrong = 0;
        for (int i = 0; i < CROWD; i++) {
            for (int j = 0; j < CROWD; j++) {
                if (stage.isTold(i) && stage.isTold(j)) {
                    int falls = stage.singers[i].drift - stage.singers[j].drift;
                    most = Math.max(most, falls);
                    if (falls > 0 && stage.sitsAhead(i, j)) {
                        wrong++;
                    }
                }
            }
        }
        return what == 0 ? most : wrong;
    }

    // ---- kept and undone

    public boolean seed(int x) {
        if (!within(x, 0, 65535)) {
            return false;
        }
        stage.x = x;
        return true;
    }

    public int keep() {
        kept.copyFrom(stage);
        wasKept = true;
        return stage.tick;
    }

    public boolean undo() {
        if (!wasKept) {
            return false;
        }
        stage.copyFrom(kept);
        for (int i = 0; i < CROWD; i++) {
            Singer one = stage.singers[i];
            one.at = Math.min(one.at, score.rolls[i].length());
            if (conductor.isDone(stage, i)) {
                one.waiting = false;
            }
        }
        return true;
    }

    public int check(int n) {
        if (!within(n, 0, CROWD) || n > tape.length()) {
            return NOT_THERE;
        }
        int wrong = NONE;
        for (int i = n - 1; i >= 0; i--) {
            int due = stage.isTold(i) ? stage.singers[i].at : 0;
            if (tape.byteAt(i) != due) {
                wrong = i;
            }
        }
        tape.clear();
        return wrong;
    }

    public int count(int what) {
        if (within(what, 10, 17)) {
            return score.rolls[what - 10].length();
        }
        if (within(what, 20, 27)) {
            return score.rolls[what - 20].fermatas();
        }
        switch (what) {
            case 0:
                return stage.tick;
            case 1:
                return stage.toldBits();
            case 2:
                return conductor.doneBits(stage);
            case 3:
                return stage.waitingBits();
            case 4:
                return score.ears;
            case 5:
                return score.tempo;
            case 6:
                return score.law.ruleCount();
            case 7:
                return tape.length();
            case 8:
                return stage.x;
            default:
                return NONE;
        }
    }

    // ---- small helps

    private static boolean within(int x, int least, int most) {
        return x >= least && x <= most;
    }

    private static boolean isSinger(int i) {
        return within(i, 0, CROWD - 1);
    }

    private static boolean areTicks(int n) {
        return within(n, 1, MOST_TICKS);
    }

    private static int lowest(int bits) {
        for (int i = 0; i < CROWD; i++) {
            if ((bits >> i & 1) != 0) {
                return i;
            }
        }
        return NONE;
    }

    private static int highest(int bits) {
        for (int i = CROWD - 1; i >= 0; i--) {
            if ((bits >> i & 1) != 0) {
                return i;
            }
        }
        return NONE;
    }

    private static boolean clash(int note, int other) {
        int apart = Math.abs(note - other);
        return note != 0 && other != 0 && (apart == 1 || apart == 6);
    }

    private static int clashesBy(Roll first, Roll second, int delay) {
        int some = 0;
        for (int k = 0; k < second.length(); k++) {
            if (clash(first.noteAt(k + delay), second.noteAt(k))) {
                some++;
            }
        }
        return some;
    }

    private static int commonDivisor(int big, int small) {
        // With no DRIFT between (0) this answers the whole dial, so that two MEET behind 1 second.
        int a = big;
        int b = small;
        for (int turn = 0; turn < 64 && b != 0; turn++) {
            int rest = a % b;
            a = b;
            b = rest;
        }
        return a;
    }

    // ---- the tape, and reading on it

    private static final class Tape {
        static final int OVER = -1;
        private static final int MOST = 260;

        private final int[] bytes;
        private int length;
        private int place;
        private int last;
        private int fault;

        Tape() {
            bytes = new int[MOST];
        }

        int length() {
            return length;
        }

        boolean hasRoomFor(int more) {
            return length + more <= MOST;
        }

        void put(int word) {
            if (!hasRoomFor(4)) {
                return;
            }
            for (int shift = 24; shift >= 0; shift -= 8) {
                bytes[length] = word >> shift & 255;
                length++;
            }
        }

        void clear() {
            length = 0;
        }

        int byteAt(int k) {
            return k >= 0 && k < length ? bytes[k] : OVER;
        }

        void open(int n) {
            place = 0;
            last = Math.min(n, length);
            fault = 0;
        }

        int place() {
            return place;
        }

        int sign() {
            return place >= 0 && place < last ? bytes[place] : OVER;
        }

        void pass() {
            place++;
        }

        /** Passes the sign that must stand here; another one is FAULT 1. */
        boolean passes(int wanted) {
            if (sign() != wanted) {
                return fails(1, place);
            }
            place++;
            return true;
        }

        /** Always false, so that a reader can hand it on. */
        boolean fails(int number, int at) {
            fault = -1000 * number - at;
            return false;
        }

        int answer(int right) {
            return fault != 0 ? fault : right;
        }
    }

    // ---- rolls

    private static final class Roll {
        static final int MOST = 60;
        static final int MOST_BYTES = 60;
        static final int FERMATA = 1;
        static final int BREATH = 2;
        private static final int BEGINS = 4;

        private final int[] notes;
        private final int[] marks;
        // How many FERMATAS the first k BEATS have: asked for each SINGER in each TICK.
        private final int[] come;
        private int length;

        Roll() {
            notes = new int[MOST];
            marks = new int[MOST];
            come = new int[MOST + 1];
        }

        int length() {
            return length;
        }

        boolean has(int k) {
            return k >= 0 && k < length;
        }

        /** Beyond the ROLL as in a rest: nothing sounds. */
        int noteAt(int k) {
            return has(k) ? notes[k] : 0;
        }

        boolean hasFermata(int k) {
            return has(k) && (marks[k] & FERMATA) != 0;
        }

        boolean hasBreath(int k) {
            return has(k) && (marks[k] & BREATH) != 0;
        }

        boolean begins(int k) {
            return has(k) && (marks[k] & BEGINS) != 0;
        }

        boolean beginsSound(int k) {
            return begins(k) && notes[k] != 0;
        }

        int fermatasWithin(int at) {
            return at >= 0 && at <= length ? come[at] : 0;
        }

        int fermatas() {
            return fermatasWithin(length);
        }

        int beatsOf(int note) {
            int some = 0;
            for (int k = 0; k < length; k++) {
                if (notes[k] == note) {
                    some++;
                }
            }
            return some;
        }

        void clear() {
            length = 0;
        }

        private void add(int note, int mark) {
            if (length >= MOST) {
                return;
            }
            notes[length] = note;
            marks[length] = mark;
            come[length + 1] = come[length] + (mark & FERMATA);
            length++;
        }

        void addSound(int note, int beats) {
            for (int k = 0; k < beats; k++) {
                add(note, k == 0 ? BEGINS : 0);
            }
        }

        void markLast(int mark) {
            if (length > 0) {
                marks[length - 1] |= mark;
                come[length] = come[length - 1] + (marks[length - 1] & FERMATA);
            }
        }

        /** What stands from BEAT first on is there so many times then. */
        void repeat(int first, int times) {
            int beats = length - first;
            for (int k = 0; k < beats * (times - 1); k++) {
                if (has(first + k)) {
                    add(notes[first + k], marks[first + k]);
                }
            }
        }
    }

    private static final class RollReader {
        private static final int MOST_OPEN = 2;

        private final Tape tape;
        private Roll roll;

        RollReader(Tape tape, Roll roll) {
            this.tape = tape;
            this.roll = roll;
        }

        /** How many BEATS, or the FAULT. */
        int readRoll(int n, Roll into) {
            roll = into;
            roll.clear();
            tape.open(n);
            if (readItems(0)) {
                tape.passes(Tape.OVER);
            }
            return tape.answer(roll.length());
        }

        private boolean readItems(int open) {
            boolean right = readItem(open);
            for (int k = 0; k < Roll.MOST_BYTES && right && startsItem(tape.sign()); k++) {
                right = readItem(open);
            }
            return right;
        }

        private boolean readItem(int open) {
            int sign = tape.sign();
            if (!startsItem(sign)) {
                return tape.fails(1, tape.place());
            }
            return sign == '(' ? readRound(open) : readSound(noteOf(sign));
        }

        private boolean readSound(int note) {
            int start = tape.place();
            tape.pass();
            int beats = 1;
            if (isTimes(tape.sign())) {
                beats = tape.sign() - '0';
                tape.pass();
            }
            if (roll.length() + beats > Roll.MOST) {
                return tape.fails(6, start);
            }
            roll.addSound(note, beats);
            if (tape.sign() == '^') {
                tape.pass();
                roll.markLast(Roll.FERMATA);
            }
            if (tape.sign() == ',') {
                tape.pass();
                roll.markLast(Roll.BREATH);
            }
            return true;
        }

        private boolean readRound(int open) {
            int start = tape.place();
            int first = roll.length();
            if (open >= MOST_OPEN) {
                return tape.fails(5, start);
            }
            tape.pass();
            if (!readItems(open + 1) || !tape.passes(')')) {
                return false;
            }
            if (tape.sign() != 'x') {
                return true;
            }
            tape.pass();
            int times = tape.sign() - '0';
            if (!isTimes(tape.sign())) {
                return tape.fails(1, tape.place());
            }
            tape.pass();
            if (first + (roll.length() - first) * times > Roll.MOST) {
                return tape.fails(6, start);
            }
            roll.repeat(first, times);
            return true;
        }

        private static boolean startsItem(int sign) {
            return sign == '(' || noteOf(sign) != NONE;
        }

        private static int noteOf(int sign) {
            if (sign == '.') {
                return 0;
            }
            return sign >= 'a' && sign <= 'g' ? sign - 'a' + 1 : NONE;
        }

        private static boolean isTimes(int sign) {
            return sign >= '2' && sign <= '9';
        }
    }

    // ---- the law

    /** RULES as steps on a row of values; a test leaves its answer in truth. */
    private static final class Law {
        static final int MOST_BYTES = 240;
        static final int MOST_RULES = 16;
        static final int LETTERS = 8;

        static final int HURRY = 0;
        static final int SLOW = 1;
        static final int COST = 2;
        static final int COUGH = 3;
        static final int SILENCE = 4;

        static final int NUMBER = 0;
        static final int LETTER = 1;
        static final int NOT = 2;
        static final int SKIP_IF_TRUE = 3;
        static final int SKIP_IF_FALSE = 4;

        // Each step comes from a byte of its own, so there are no more of them than bytes.
        private static final int MOST_STEPS = MOST_BYTES;
        // Three values at most wait in each of seven brackets, and one ahead of a < > =.
        private static final int MOST_VALUES = 32;
        private static final int[] HIGHEST = {60, 60, 20, 10, 0};

        private final int[] doing;
        private final int[] with;
        private int steps;
        private final int[] kinds;
        private final int[] worthFrom;
        private final int[] testFrom;
        private final int[] testTo;
        private int rules;
        private final int[] values;
        private int depth;
        private boolean truth;

        Law() {
            doing = new int[MOST_STEPS];
            with = new int[MOST_STEPS];
            kinds = new int[MOST_RULES];
            worthFrom = new int[MOST_RULES];
            testFrom = new int[MOST_RULES];
            testTo = new int[MOST_RULES];
            values = new int[MOST_VALUES];
        }

        int ruleCount() {
            return rules;
        }

        int stepCount() {
            return steps;
        }

        void clear() {
            steps = 0;
            rules = 0;
        }

        void addStep(int what, int by) {
            if (steps < MOST_STEPS) {
                doing[steps] = what;
                with[steps] = by;
                steps++;
            }
        }

        /** A skip whose landing is not known yet keeps the one before it; answers its place. */
        int addSkip(int what, int before) {
            addStep(what, before);
            return steps - 1;
        }

        void landHere(int lastSkip) {
            int skip = lastSkip;
            for (int k = 0; k < MOST_STEPS && skip >= 0 && skip < steps; k++) {
                int before = with[skip];
                with[skip] = steps;
                skip = before;
            }
        }

        /** The RULE whose C ends here. */
        void addRule(int kind, int worthAt, int testAt) {
            if (rules < MOST_RULES) {
                kinds[rules] = kind;
                worthFrom[rules] = worthAt;
                testFrom[rules] = testAt;
                testTo[rules] = steps;
                rules++;
            }
        }

        boolean silences(int[] letters) {
            for (int r = 0; r < rules; r++) {
                if (kinds[r] == SILENCE && reckon(testFrom[r], testTo[r], letters) && truth) {
                    return true;
                }
            }
            return false;
        }

        int worth(int kind, int[] letters) {
            for (int r = 0; r < rules; r++) {
                if (kinds[r] == kind && reckon(testFrom[r], testTo[r], letters) && truth) {
                    int worth = reckon(worthFrom[r], testFrom[r], letters) ? values[0] : 0;
                    return Math.max(0, Math.min(worth, highestOf(kind)));
                }
            }
            return 0;
        }

        private static int highestOf(int kind) {
            return kind >= 0 && kind < HIGHEST.length ? HIGHEST[kind] : 0;
        }

        /** False: something was divided by 0. */
        private boolean reckon(int from, int to, int[] letters) {
            depth = 0;
            truth = false;
            int step = from;
            for (int k = 0; k < MOST_STEPS && step >= 0 && step < to && step < steps; k++) {
                int by = with[step];
                int next = step + 1;
                switch (doing[step]) {
                    case NUMBER:
                        push(by);
                        break;
                    case LETTER:
                        push(by >= 0 && by < letters.length ? letters[by] : 0);
                        break;
                    case NOT:
                        truth = !truth;
                        break;
                    case SKIP_IF_TRUE:
                        next = truth ? by : next;
                        break;
                    case SKIP_IF_FALSE:
                        next = truth ? next : by;
                        break;
                    default:
                        if (!combine(doing[step])) {
                            return false;
                        }
                        break;
                }
                step = next;
            }
            return true;
        }

        private void push(int value) {
            if (depth < MOST_VALUES) {
                values[depth] = value;
                depth++;
            }
        }

        /** The sign is the step: + - * / % < > = of the last two values. */
        private boolean combine(int sign) {
            if (depth < 2 || depth > MOST_VALUES) {
                return false;
            }
            int left = values[depth - 2];
            int right = values[depth - 1];
            switch (sign) {
                case '<':
                    truth = left < right;
                    break;
                case '>':
                    truth = left > right;
                    break;
                case '=':
                    truth = left == right;
                    break;
                case '+':
                    values[depth - 2] = left + right;
                    break;
                case '-':
                    values[depth - 2] = left - right;
                    break;
                case '*':
                    values[depth - 2] = left * right;
                    break;
                default:
                    if (right == 0) {
                        return false;
                    }
                    values[depth - 2] = sign == '/' ? left / right : left % right;
                    break;
            }
            // A test uses up both values: its answer is in truth.
            depth -= sign == '<' || sign == '>' || sign == '=' ? 2 : 1;
            return true;
        }
    }

    private static final class LawReader {
        private static final int MOST_OPEN = 6;
        private static final int MOST_DIGITS = 5;

        private final Tape tape;
        private Law law;

        LawReader(Tape tape, Law law) {
            this.tape = tape;
            this.law = law;
        }

        /** How many RULES, or the FAULT. */
        int readLaw(int n, Law into) {
            law = into;
            law.clear();
            tape.open(n);
            boolean right = readRule();
            for (int k = 0; k < Law.MOST_RULES && right && tape.sign() == ';'; k++) {
                tape.pass();
                right = readRule();
            }
            if (right) {
                tape.passes(Tape.OVER);
            }
            return tape.answer(law.ruleCount());
        }

        private boolean readRule() {
            int kind = kindOf(tape.sign());
            if (kind == NONE) {
                return tape.fails(1, tape.place());
            }
            if (law.ruleCount() >= Law.MOST_RULES) {
                return tape.fails(4, tape.place());
            }
            tape.pass();
            int worthAt = law.stepCount();
            if (kind != Law.SILENCE && !readSum(0)) {
                return false;
            }
            int testAt = law.stepCount();
            if (!tape.passes('(') || !readChoice(1) || !tape.passes(')')) {
                return false;
            }
            law.addRule(kind, worthAt, testAt);
            return true;
        }

        /** C: one of its PARTS must hold. */
        private boolean readChoice(int open) {
            boolean right = readPart(open);
            int skip = NONE;
            for (int k = 0; k < Law.MOST_BYTES && right && tape.sign() == '|'; k++) {
                tape.pass();
                skip = law.addSkip(Law.SKIP_IF_TRUE, skip);
                right = readPart(open);
            }
            law.landHere(skip);
            return right;
        }

        private boolean readPart(int open) {
            boolean right = readTest(open);
            int skip = NONE;
            for (int k = 0; k < Law.MOST_BYTES && right && tape.sign() == '&'; k++) {
                tape.pass();
                skip = law.addSkip(Law.SKIP_IF_FALSE, skip);
                right = readTest(open);
            }
            law.landHere(skip);
            return right;
        }

        private boolean readTest(int open) {
            int sign = tape.sign();
            if (sign != '!' && sign != '(') {
                return readComparison(open);
            }
            if (open >= MOST_OPEN) {
                return tape.fails(5, tape.place());
            }
            tape.pass();
            if (sign == '(') {
                return readChoice(open + 1) && tape.passes(')');
            }
            if (!readTest(open + 1)) {
                return false;
            }
            law.addStep(Law.NOT, 0);
            return true;
        }

        private boolean readComparison(int open) {
            if (!readSum(open)) {
                return false;
            }
            int sign = tape.sign();
            if (sign != '<' && sign != '>' && sign != '=') {
                return tape.fails(1, tape.place());
            }
            tape.pass();
            if (!readSum(open)) {
                return false;
            }
            law.addStep(sign, 0);
            return true;
        }

        /** E: TERMS. */
        private boolean readSum(int open) {
            boolean right = readTerm(open);
            int sign = tape.sign();
            for (int k = 0; k < Law.MOST_BYTES && right && (sign == '+' || sign == '-'); k++) {
                tape.pass();
                right = readTerm(open);
                law.addStep(sign, 0);
                sign = tape.sign();
            }
            return right;
        }

        private boolean readTerm(int open) {
            boolean right = readFactor(open);
            int sign = tape.sign();
            for (int k = 0; k < Law.MOST_BYTES && right && (sign == '*' || sign == '/' || sign == '%'); k++) {
                tape.pass();
                right = readFactor(open);
                law.addStep(sign, 0);
                sign = tape.sign();
            }
            return right;
        }

        private boolean readFactor(int open) {
            int sign = tape.sign();
            if (sign == '[') {
                if (open >= MOST_OPEN) {
                    return tape.fails(5, tape.place());
                }
                tape.pass();
                return readSum(open + 1) && tape.passes(']');
            }
            if (isDigit(sign)) {
                return readNumber();
            }
            int letter = letterOf(sign);
            if (letter == NONE) {
                return tape.fails(1, tape.place());
            }
            tape.pass();
            law.addStep(Law.LETTER, letter);
            return true;
        }

        private boolean readNumber() {
            int number = 0;
            for (int k = 0; k < MOST_DIGITS && isDigit(tape.sign()); k++) {
                number = number * 10 + tape.sign() - '0';
                tape.pass();
            }
            if (isDigit(tape.sign())) {
                return tape.fails(2, tape.place());
            }
            law.addStep(Law.NUMBER, number);
            return true;
        }

        private static boolean isDigit(int sign) {
            return sign >= '0' && sign <= '9';
        }

        private static int kindOf(int sign) {
            switch (sign) {
                case 'u':
                    return Law.HURRY;
                case 'v':
                    return Law.SLOW;
                case 'b':
                    return Law.COST;
                case 'c':
                    return Law.COUGH;
                case 'x':
                    return Law.SILENCE;
                default:
                    return NONE;
            }
        }

        private static int letterOf(int sign) {
            switch (sign) {
                case 's':
                    return Conductor.SELF;
                case 'd':
                    return Conductor.DRIFT;
                case 'p':
                    return Conductor.AT;
                case 'a':
                    return Conductor.AHEAD;
                case 'n':
                    return Conductor.HEARD;
                case 'l':
                    return Conductor.BREATH;
                case 'k':
                    return Conductor.NOTE;
                case 't':
                    return Conductor.TICK;
                default:
                    return NONE;
            }
        }
    }

    /** What is told and stays when SINGERS are UNDONE. The spare ones are read into. */
    private static final class Score {
        final Roll[] rolls;
        Roll spareRoll;
        Law law;
        Law spareLaw;
        int ears;
        int tempo;

        Score() {
            rolls = new Roll[CROWD];
            for (int i = 0; i < CROWD; i++) {
                rolls[i] = new Roll();
            }
            spareRoll = new Roll();
            law = new Law();
            spareLaw = new Law();
            ears = 15;
            tempo = 120;
        }

        void takeSpareRoll(int i) {
            if (isSinger(i)) {
                Roll old = rolls[i];
                rolls[i] = spareRoll;
                spareRoll = old;
            }
        }

        void takeSpareLaw() {
            Law old = law;
            law = spareLaw;
            spareLaw = old;
        }
    }

    // ---- singers

    private static final class Singer {
        boolean told;
        int drift;
        int seat;
        int deaf;
        int lungs;
        int at;
        int phase;
        int breath;
        int missed;
        boolean waiting;

        void begin() {
            at = 0;
            phase = 0;
            breath = lungs;
            missed = 0;
            waiting = false;
        }

        void copyFrom(Singer other) {
            told = other.told;
            drift = other.drift;
            seat = other.seat;
            deaf = other.deaf;
            lungs = other.lungs;
            at = other.at;
            phase = other.phase;
            breath = other.breath;
            missed = other.missed;
            waiting = other.waiting;
        }

        int speed() {
            return 60 + drift;
        }

        int secondsShown(int t) {
            return t * speed() / 60;
        }

        boolean hears(Singer other, int ears) {
            int way = other.seat - seat;
            if (!other.told || Math.abs(way) > ears) {
                return false;
            }
            if (way == 0) {
                return deaf != 3;
            }
            // DEAF 1, 2 and 3 are bits: 1 for the left side, 2 for the right one.
            return (deaf & (way < 0 ? 1 : 2)) == 0;
        }
    }

    /** All that is KEPT. */
    private static final class Stage {
        final Singer[] singers;
        int tick;
        int x;

        Stage() {
            singers = new Singer[CROWD];
            for (int i = 0; i < CROWD; i++) {
                singers[i] = new Singer();
            }
            x = 1;
        }

        void copyFrom(Stage other) {
            for (int i = 0; i < CROWD; i++) {
                singers[i].copyFrom(other.singers[i]);
            }
            tick = other.tick;
            x = other.x;
        }

        boolean isTold(int i) {
            return isSinger(i) && singers[i].told;
        }

        int toldBits() {
            int bits = 0;
            for (int i = 0; i < CROWD; i++) {
                if (singers[i].told) {
                    bits |= 1 << i;
                }
            }
            return bits;
        }

        int waitingBits() {
            int bits = 0;
            for (int i = 0; i < CROWD; i++) {
                if (singers[i].told && singers[i].waiting) {
                    bits |= 1 << i;
                }
            }
            return bits;
        }

        int heardBits(int i, int ears) {
            int bits = 0;
            for (int j = 0; j < CROWD && isSinger(i); j++) {
                if (j != i && singers[i].hears(singers[j], ears)) {
                    bits |= 1 << j;
                }
            }
            return bits;
        }

        boolean sitsAhead(int i, int j) {
            if (!isSinger(i) || !isSinger(j)) {
                return false;
            }
            int way = singers[j].seat - singers[i].seat;
            return way > 0 || way == 0 && i < j;
        }

        int draw() {
            x = (25173 * x + 13849) % 65536;
            return x % 10;
        }
    }

    /** Lets TICKS go by on a Stage, and tells what came of them since it was last made to forget. */
    private static final class Conductor {
        static final int SELF = 0;
        static final int DRIFT = 1;
        static final int AT = 2;
        static final int AHEAD = 3;
        static final int HEARD = 4;
        static final int BREATH = 5;
        static final int NOTE = 6;
        static final int TICK = 7;

        private static final int LAST_TICK = 99999;

        private final Score score;
        private final int[] startAt;
        private final int[] letters;
        int sung;
        int missed;
        int coughs;

        Conductor(Score score) {
            this.score = score;
            startAt = new int[CROWD];
            letters = new int[Law.LETTERS];
        }

        void forget() {
            sung = 0;
            missed = 0;
            coughs = 0;
        }

        boolean isDone(Stage stage, int i) {
            return isSinger(i) && stage.singers[i].at >= score.rolls[i].length();
        }

        int doneBits(Stage stage) {
            int bits = 0;
            for (int i = 0; i < CROWD; i++) {
                if (stage.singers[i].told && isDone(stage, i)) {
                    bits |= 1 << i;
                }
            }
            return bits;
        }

        /** 0: none, or a rest. */
        int noteNow(Stage stage, int i) {
            if (!stage.isTold(i) || stage.singers[i].waiting) {
                return 0;
            }
            return score.rolls[i].noteAt(stage.singers[i].at);
        }

        int apart(Stage stage) {
            int most = 0;
            int least = Roll.MOST;
            for (int i = 0; i < CROWD; i++) {
                if (stage.singers[i].told && !isDone(stage, i)) {
                    most = Math.max(most, stage.singers[i].at);
                    least = Math.min(least, stage.singers[i].at);
                }
            }
            return Math.max(0, most - least);
        }

        /** A TICK; false: none can go by. */
        boolean step(Stage stage) {
            if (stage.tick >= LAST_TICK) {
                return false;
            }
            for (int i = 0; i < CROWD; i++) {
                startAt[i] = stage.singers[i].at;
            }
            for (int i = 0; i < CROWD; i++) {
                if (stage.singers[i].told && !isDone(stage, i) && goesOn(stage, i)) {
                    sing(stage.singers[i], score.rolls[i]);
                }
            }
            stage.tick++;
            return true;
        }

        /** His PHASE goes on; false: he waits, is silent or coughs. */
        private boolean goesOn(Stage stage, int i) {
            if (!isSinger(i)) {
                return false;
            }
            Singer one = stage.singers[i];
            if (one.waiting) {
                one.waiting = !allHaveCome(stage, score.rolls[i].fermatasWithin(startAt[i]));
                return false;
            }
            setLetters(stage, i);
            if (score.law.silences(letters)) {
                return false;
            }
            // The DRAW is taken whatever c is, 0 too: the document names no case without one.
            if (stage.draw() < score.law.worth(Law.COUGH, letters)) {
                coughs++;
                return false;
            }
            int more = one.speed() + score.law.worth(Law.HURRY, letters) - score.law.worth(Law.SLOW, letters);
            one.phase += Math.max(0, more);
            return true;
        }

        private boolean allHaveCome(Stage stage, int fermatas) {
            for (int i = 0; i < CROWD; i++) {
                Roll roll = score.rolls[i];
                if (stage.singers[i].told && roll.fermatas() >= fermatas
                        && roll.fermatasWithin(startAt[i]) < fermatas) {
                    return false;
                }
            }
            return true;
        }

        private void setLetters(Stage stage, int i) {
            if (!isSinger(i)) {
                return;
            }
            Singer one = stage.singers[i];
            int heard = 0;
            int sum = 0;
            for (int j = 0; j < CROWD; j++) {
                if (j != i && one.hears(stage.singers[j], score.ears)) {
                    heard++;
                    sum += startAt[j];
                }
            }
            letters[SELF] = i;
            letters[DRIFT] = one.drift;
            letters[AT] = startAt[i];
            letters[AHEAD] = heard == 0 ? 0 : sum / heard - startAt[i];
            letters[HEARD] = heard;
            letters[BREATH] = one.breath;
            letters[NOTE] = score.rolls[i].noteAt(one.at);
            letters[TICK] = stage.tick % 100;
        }

        private void sing(Singer one, Roll roll) {
            // A ROLL ends after MOST BEATS, and one who is DONE has no PHASE left.
            for (int k = 0; k < Roll.MOST && one.phase >= score.tempo; k++) {
                int beat = one.at;
                one.phase -= score.tempo;
                if (roll.noteAt(beat) != 0) {
                    spendBreath(one, roll.noteAt(beat));
                }
                one.at++;
                sung++;
                if (roll.hasBreath(beat)) {
                    one.breath = one.lungs;
                }
                if (one.at >= roll.length()) {
                    one.phase = 0;
                } else if (roll.hasFermata(beat)) {
                    one.waiting = true;
                    one.phase = 0;
                }
            }
        }

        private void spendBreath(Singer one, int note) {
            if (one.breath == 0) {
                one.missed++;
                missed++;
                return;
            }
            letters[BREATH] = one.breath;
            letters[NOTE] = note;
            one.breath = Math.max(0, one.breath - score.law.worth(Law.COST, letters));
        }
    }

    /** Who comes to hear whom, directly or by others. */
    private static final class Circle {
        private final int[] reach;
        private int told;

        Circle() {
            reach = new int[CROWD];
        }

        void listen(Stage stage, int ears) {
            told = stage.toldBits();
            for (int i = 0; i < CROWD; i++) {
                reach[i] = stage.isTold(i) ? stage.heardBits(i, ears) : 0;
            }
            for (int by = 0; by < CROWD; by++) {
                for (int i = 0; i < CROWD; i++) {
                    if ((reach[i] >> by & 1) != 0) {
                        reach[i] |= reach[by];
                    }
                }
            }
        }

        int followersOf(int i) {
            int bits = 0;
            for (int j = 0; j < CROWD; j++) {
                if (j != i && (reach[j] >> i & 1) != 0) {
                    bits |= 1 << j;
                }
            }
            return bits;
        }

        int groupOf(int i) {
            return isSinger(i) ? (followersOf(i) & reach[i] | 1 << i) & told : 0;
        }
    }

    /** Two TUNES beside each other. */
    private static final class Tunes {
        private final int[] first;
        private final int[] second;
        private int firstLength;
        private int secondLength;
        int longest;
        int inFirst;
        int inSecond;
        int higher;

        Tunes() {
            first = new int[Roll.MOST];
            second = new int[Roll.MOST];
        }

        private static int write(Roll roll, int[] row) {
            int length = 0;
            for (int k = 0; k < roll.length(); k++) {
                if (roll.beginsSound(k) && length < row.length) {
                    row[length] = roll.noteAt(k);
                    length++;
                }
            }
            return length;
        }

        private void load(Roll one, Roll other) {
            firstLength = write(one, first);
            secondLength = write(other, second);
        }

        boolean areMirrored(Roll one, Roll other) {
            load(one, other);
            if (firstLength != secondLength) {
                return false;
            }
            for (int k = 0; k < firstLength; k++) {
                if (first[k] != second[secondLength - 1 - k]) {
                    return false;
                }
            }
            return true;
        }

        void compare(Roll one, Roll other) {
            load(one, other);
            longest = 0;
            // Where no more sounds are left than the longest row has, no longer one can begin.
            for (int p = 0; p + longest < firstLength; p++) {
                for (int q = 0; q + longest < secondLength; q++) {
                    int row = rowFrom(p, q);
                    if (row > longest) {
                        longest = row;
                        inFirst = p;
                        inSecond = q;
                        higher = second[q] - first[p];
                    }
                }
            }
        }

        private int rowFrom(int p, int q) {
            if (p < 0 || q < 0 || p >= firstLength || q >= secondLength) {
                return 0;
            }
            int up = second[q] - first[p];
            int row = 1;
            while (p + row < firstLength && q + row < secondLength && second[q + row] - first[p + row] == up) {
                row++;
            }
            return row;
        }
    }

    /** The fewest BREATHS in a ROLL, each as early as it can be. */
    private static final class Breather {
        private static final int CANNOT = 1000;

        // For each sound: its BEATS, behind how many BEATS it ends, BREATHS needed from it on.
        private final int[] beats;
        private final int[] ends;
        private final int[] needed;
        private int sounds;
        private final int[] places;
        private int chosen;

        Breather() {
            beats = new int[Roll.MOST];
            ends = new int[Roll.MOST];
            needed = new int[Roll.MOST];
            places = new int[Roll.MOST];
        }

        /** False: a sound is longer than k. */
        boolean plan(Roll roll, int k) {
            list(roll);
            for (int from = sounds - 1; from >= 0; from--) {
                needed[from] = fewestFrom(from, k);
            }
            chosen = 0;
            if (sounds > 0 && needed[0] >= CANNOT) {
                return false;
            }
            choose();
            return true;
        }

        int fewest() {
            return chosen;
        }

        int placeOf(int k) {
            return k >= 0 && k < chosen ? places[k] : NO_PLACE;
        }

        private void list(Roll roll) {
            sounds = 0;
            for (int at = 0; at < roll.length(); at++) {
                if (roll.beginsSound(at) && sounds < Roll.MOST) {
                    beats[sounds] = 0;
                    sounds++;
                }
                if (sounds > 0 && roll.noteAt(at) != 0) {
                    beats[sounds - 1]++;
                    ends[sounds - 1] = at + 1;
                }
            }
        }

        private int fewestFrom(int from, int k) {
            int best = CANNOT;
            int sung = 0;
            for (int next = from + 1; next <= sounds && from >= 0; next++) {
                sung += beats[next - 1];
                if (sung <= k) {
                    best = Math.min(best, next == sounds ? 0 : 1 + needed[next]);
                }
            }
            return Math.min(best, CANNOT);
        }

        /**
         * From sound to sound the need stays or falls by one. The earliest place behind which it
         * has fallen is never too late, as less is sung till there than till any other such place.
         */
        private void choose() {
            for (int next = 1; next < sounds; next++) {
                if (needed[next] < needed[next - 1] && chosen < Roll.MOST) {
                    places[chosen] = ends[next - 1];
                    chosen++;
                }
            }
        }
    }
}
