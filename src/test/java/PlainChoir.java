import java.util.ArrayList;
import java.util.HashSet;
import java.util.List;
import java.util.Set;

/**
 * The document written down a second time, in another way and with all of Java's library: texts are read
 * again whenever they are needed, every choice is tried. RandomRunsTest holds ClockChoir against it.
 */
final class PlainChoir {
    static final class Beat {
        int note;
        boolean fermata;
        boolean breath;
        boolean begins;

        Beat copy() {
            Beat b = new Beat();
            b.note = note;
            b.fermata = fermata;
            b.breath = breath;
            b.begins = begins;
            return b;
        }
    }

    static final class One {
        boolean told;
        boolean waiting;
        int drift;
        int seat;
        int deaf;
        int lungs;
        int at;
        int phase;
        int breath;
        int missed;

        void begin() {
            at = phase = missed = 0;
            breath = lungs;
            waiting = false;
        }

        One copy() {
            One o = new One();
            o.told = told;
            o.waiting = waiting;
            o.drift = drift;
            o.seat = seat;
            o.deaf = deaf;
            o.lungs = lungs;
            o.at = at;
            o.phase = phase;
            o.breath = breath;
            o.missed = missed;
            return o;
        }
    }

    static final class All {
        final One[] ones = new One[8];
        int tick;
        long x = 1;

        All copy() {
            All a = new All();
            for (int i = 0; i < 8; i++) {
                a.ones[i] = ones[i].copy();
            }
            a.tick = tick;
            a.x = x;
            return a;
        }
    }

    static final class Fault extends RuntimeException {
        private static final long serialVersionUID = 1;
        final int answer;

        Fault(int number, int place) {
            answer = -1000 * number - place;
        }
    }

    static final class Refused extends RuntimeException {
        private static final long serialVersionUID = 1;
    }

    private All now = new All();
    private All kept;
    private final List<List<Beat>> rolls = new ArrayList<>();
    private List<String> rules = new ArrayList<>();
    private int ears = 15;
    private int tempo = 120;
    private String tape = "";
    private int sung;
    private int missed;
    private int coughs;

    PlainChoir() {
        for (int i = 0; i < 8; i++) {
            now.ones[i] = new One();
            rolls.add(new ArrayList<>());
        }
    }

    private static boolean no(long v, long low, long high) {
        return v < low || v > high;
    }

    private boolean told(int i) {
        return !no(i, 0, 7) && now.ones[i].told;
    }

    boolean singer(int i, int drift, int seat, int deaf, int lungs) {
        if (no(i, 0, 7) || no(drift, -20, 20) || no(seat, 0, 15) || no(deaf, 0, 3) || no(lungs, 1, 20)) {
            return false;
        }
        One o = new One();
        o.told = true;
        o.drift = drift;
        o.seat = seat;
        o.deaf = deaf;
        o.lungs = lungs;
        o.begin();
        now.ones[i] = o;
        return true;
    }

    boolean ears(int n) {
        if (no(n, 0, 15)) {
            return false;
        }
        ears = n;
        return true;
    }

    boolean tempo(int n) {
        if (no(n, 60, 600)) {
            return false;
        }
        tempo = n;
        return true;
    }

    int anew() {
        int many = 0;
        for (One o : now.ones) {
            if (o.told) {
                o.begin();
                many++;
            }
        }
        return many;
    }

    int feed(int... words) {
        if (tape.length() + 20 > 260) {
            return -1;
        }
        for (int w : words) {
            tape += "" + (char) (w >>> 24) + (char) (w >>> 16 & 255) + (char) (w >>> 8 & 255) + (char) (w & 255);
        }
        return tape.length();
    }

    private String take(int n) {
        String text = tape.substring(0, n);
        tape = "";
        return text;
    }

    int law(int n) {
        if (no(n, 1, 240) || n > tape.length()) {
            return -1;
        }
        try {
            rules = new LawText(take(n), null).readAll();
            return rules.size();
        } catch (Fault f) {
            return f.answer;
        }
    }

    int roll(int i, int n) {
        if (no(i, 0, 7) || no(n, 1, 60) || n > tape.length()) {
            return -1;
        }
        try {
            RollText text = new RollText(take(n));
            List<Beat> beats = text.items(0, 0);
            if (text.at < n) {
                throw new Fault(1, text.at);
            }
            rolls.set(i, beats);
            now.ones[i].begin();
            return beats.size();
        } catch (Fault f) {
            return f.answer;
        }
    }

    /** Items are answered as rows of their own; how many BEATS stand ahead of them is handed down. */
    static final class RollText {
        final String text;
        int at;

        RollText(String text) {
            this.text = text;
        }

        char sign() {
            return at < text.length() ? text.charAt(at) : 0;
        }

        List<Beat> items(int open, int ahead) {
            List<Beat> beats = new ArrayList<>();
            do {
                beats.addAll(item(open, ahead + beats.size()));
            } while (sign() != 0 && "abcdefg.(".indexOf(sign()) >= 0);
            return beats;
        }

        List<Beat> item(int open, int ahead) {
            int start = at;
            int note = ".abcdefg".indexOf(sign());
            List<Beat> beats = new ArrayList<>();
            if (sign() != 0 && note >= 0) {
                at++;
                int many = digit() ? text.charAt(at++) - '0' : 1;
                for (int k = 0; k < many; k++) {
                    Beat b = new Beat();
                    b.note = note;
                    b.begins = k == 0;
                    beats.add(b);
                }
                room(ahead + many, start);
                if (sign() == '^') {
                    at++;
                    beats.get(many - 1).fermata = true;
                }
                if (sign() == ',') {
                    at++;
                    beats.get(many - 1).breath = true;
                }
                return beats;
            }
            if (sign() != '(') {
                throw new Fault(1, at);
            }
            if (open == 2) {
                throw new Fault(5, at);
            }
            at++;
            List<Beat> inside = items(open + 1, ahead);
            if (sign() != ')') {
                throw new Fault(1, at);
            }
            at++;
            int times = 1;
            if (sign() == 'x') {
                at++;
                if (!digit()) {
                    throw new Fault(1, at);
                }
                times = text.charAt(at++) - '0';
            }
            room(ahead + times * inside.size(), start);
            for (int k = 0; k < times; k++) {
                for (Beat b : inside) {
                    beats.add(b.copy());
                }
            }
            return beats;
        }

        boolean digit() {
            return sign() >= '2' && sign() <= '9';
        }

        static void room(int all, int start) {
            if (all > 60) {
                throw new Fault(6, start);
            }
        }
    }

    /** Reads a LAW, or asks a RULE of it: with values for the letters it reckons while it reads. */
    static final class LawText {
        final String text;
        final int[] values;
        int at;

        LawText(String text, int[] values) {
            this.text = text;
            this.values = values;
        }

        char sign() {
            return at < text.length() ? text.charAt(at) : 0;
        }

        boolean is(String signs) {
            return sign() != 0 && signs.indexOf(sign()) >= 0;
        }

        void must(String signs) {
            if (!is(signs)) {
                throw new Fault(1, at);
            }
            at++;
        }

        void open(int deep) {
            if (deep > 6) {
                throw new Fault(5, at);
            }
            at++;
        }

        List<String> readAll() {
            List<String> rules = new ArrayList<>();
            while (true) {
                int start = at;
                if (is("uvbcx") && rules.size() == 16) {
                    throw new Fault(4, at);
                }
                boolean silent = sign() == 'x';
                must("uvbcx");
                if (!silent) {
                    sum(0, false);
                }
                must("(");
                any(1, false);
                must(")");
                rules.add(text.substring(start, at));
                if (at == text.length()) {
                    return rules;
                }
                must(";");
            }
        }

        /** The first ( that no [ stands around begins the C, as an E has none. */
        boolean holds() {
            at = text.indexOf('(') + 1;
            try {
                return any(1, true);
            } catch (Refused r) {
                return false;
            }
        }

        int worth() {
            at = 1;
            try {
                return sum(0, true);
            } catch (Refused r) {
                return 0;
            }
        }

        boolean any(int deep, boolean asked) {
            boolean holds = all(deep, asked);
            while (is("|")) {
                at++;
                holds |= all(deep, asked && !holds);
            }
            return holds;
        }

        boolean all(int deep, boolean asked) {
            boolean holds = test(deep, asked);
            while (is("&")) {
                at++;
                holds &= test(deep, asked && holds);
            }
            return holds && asked;
        }

        boolean test(int deep, boolean asked) {
            if (is("!")) {
                open(deep + 1);
                return !test(deep + 1, asked) && asked;
            }
            if (is("(")) {
                open(deep + 1);
                boolean holds = any(deep + 1, asked);
                must(")");
                return holds;
            }
            int left = sum(deep, asked);
            char how = sign();
            must("<>=");
            int right = sum(deep, asked);
            return asked && (how == '<' ? left < right : how == '>' ? left > right : left == right);
        }

        int sum(int deep, boolean asked) {
            int value = term(deep, asked);
            while (is("+-")) {
                boolean plus = text.charAt(at++) == '+';
                int more = term(deep, asked);
                value = plus ? value + more : value - more;
            }
            return value;
        }

        int term(int deep, boolean asked) {
            int value = factor(deep, asked);
            while (is("*/%")) {
                char how = text.charAt(at++);
                int by = factor(deep, asked);
                if (!asked) {
                    continue;
                }
                if (how != '*' && by == 0) {
                    throw new Refused();
                }
                value = how == '*' ? value * by : how == '/' ? value / by : value % by;
            }
            return value;
        }

        int factor(int deep, boolean asked) {
            if (is("[")) {
                open(deep + 1);
                int value = sum(deep + 1, asked);
                must("]");
                return value;
            }
            if (is("0123456789")) {
                int start = at;
                while (is("0123456789")) {
                    if (at - start == 5) {
                        throw new Fault(2, at);
                    }
                    at++;
                }
                return Integer.parseInt(text.substring(start, at));
            }
            int letter = "sdpanlkt".indexOf(sign());
            must("sdpanlkt");
            return asked ? values[letter] : 0;
        }
    }

    private boolean hears(All all, int i, int j) {
        One me = all.ones[i];
        One other = all.ones[j];
        if (i == j || !me.told || !other.told || Math.abs(me.seat - other.seat) > ears) {
            return false;
        }
        if (me.seat == other.seat || me.deaf == 0 || me.deaf == 3) {
            return me.deaf != 3;
        }
        return me.deaf == 1 ? other.seat > me.seat : other.seat < me.seat;
    }

    private boolean done(All all, int i) {
        return all.ones[i].at >= rolls.get(i).size();
    }

    private int come(All all, int i) {
        return (int) rolls.get(i).subList(0, all.ones[i].at).stream().filter(b -> b.fermata).count();
    }

    private int fermatas(int i) {
        return (int) rolls.get(i).stream().filter(b -> b.fermata).count();
    }

    private int ask(char kind, int most, int[] values) {
        for (String rule : rules) {
            LawText text = new LawText(rule, values);
            if (rule.charAt(0) == kind && text.holds()) {
                return Math.max(0, Math.min(most, text.worth()));
            }
        }
        return 0;
    }

    private int[] values(All start, All all, int i) {
        int many = 0;
        int sum = 0;
        for (int j = 0; j < 8; j++) {
            if (hears(all, i, j)) {
                many++;
                sum += start.ones[j].at;
            }
        }
        One me = all.ones[i];
        int ahead = many == 0 ? 0 : sum / many - start.ones[i].at;
        return new int[] {i, me.drift, start.ones[i].at, ahead, many, me.breath, rolls.get(i).get(me.at).note, all.tick % 100};
    }

    private boolean tick(All all) {
        if (all.tick == 99999) {
            return false;
        }
        All start = all.copy();
        for (int i = 0; i < 8; i++) {
            if (all.ones[i].told && !done(all, i)) {
                turn(start, all, i);
            }
        }
        all.tick++;
        return true;
    }

    private void turn(All start, All all, int i) {
        One me = all.ones[i];
        if (me.waiting) {
            boolean free = true;
            for (int j = 0; j < 8; j++) {
                if (start.ones[j].told && fermatas(j) >= come(start, i)) {
                    free &= come(start, j) >= come(start, i);
                }
            }
            me.waiting = !free;
            return;
        }
        int[] values = values(start, all, i);
        for (String rule : rules) {
            if (rule.charAt(0) == 'x' && new LawText(rule, values).holds()) {
                return;
            }
        }
        all.x = (25173 * all.x + 13849) % 65536;
        if (all.x % 10 < ask('c', 10, values)) {
            coughs++;
            return;
        }
        me.phase += Math.max(0, 60 + me.drift + ask('u', 60, values) - ask('v', 60, values));
        while (me.phase >= tempo) {
            me.phase -= tempo;
            Beat b = rolls.get(i).get(me.at);
            if (b.note != 0) {
                if (me.breath == 0) {
                    me.missed++;
                    missed++;
                } else {
                    me.breath = Math.max(0, me.breath - ask('b', 20, values(start, all, i)));
                }
            }
            me.at++;
            sung++;
            if (b.breath) {
                me.breath = me.lungs;
            }
            if (b.fermata && !done(all, i)) {
                me.waiting = true;
            }
            if (b.fermata || done(all, i)) {
                me.phase = 0;
            }
        }
    }

    /** The states behind each TICK that can go by, the one now first. */
    private List<All> states(int n) {
        sung = missed = coughs = 0;
        List<All> row = new ArrayList<>();
        row.add(now.copy());
        for (int t = 0; t < n; t++) {
            All next = row.get(row.size() - 1).copy();
            if (!tick(next)) {
                break;
            }
            row.add(next);
        }
        return row;
    }

    private All last(int n) {
        List<All> row = states(n);
        return row.get(row.size() - 1);
    }

    int ticks(int n) {
        if (no(n, 1, 240)) {
            return -1;
        }
        now = last(n);
        return sung;
    }

    private int waiting(All all) {
        int bits = 0;
        for (int i = 0; i < 8; i++) {
            bits += all.ones[i].told && all.ones[i].waiting ? 1 << i : 0;
        }
        return bits;
    }

    private int doneBits(All all) {
        int bits = 0;
        for (int i = 0; i < 8; i++) {
            bits += all.ones[i].told && done(all, i) ? 1 << i : 0;
        }
        return bits;
    }

    private int toldBits() {
        int bits = 0;
        for (int i = 0; i < 8; i++) {
            bits += told(i) ? 1 << i : 0;
        }
        return bits;
    }

    int tried(int n, int what) {
        if (no(n, 1, 240) || no(what, 0, 3) && (no(what, 10, 37) || !told(what % 10))) {
            return -1;
        }
        All all = last(n);
        switch (what) {
            case 0:
                return sung;
            case 1:
                return missed;
            case 2:
                return coughs;
            case 3:
                return Integer.bitCount(waiting(all));
            default:
                One o = all.ones[what % 10];
                return what < 20 ? o.at : what < 30 ? o.phase : o.breath;
        }
    }

    int singerIs(int i, int what) {
        if (!told(i) || no(what, 0, 9)) {
            return -1;
        }
        One o = now.ones[i];
        int heard = 0;
        for (int j = 0; j < 8; j++) {
            heard += hears(now, i, j) ? 1 << j : 0;
        }
        return new int[] {o.seat, o.deaf, o.lungs, o.at, o.phase, o.breath, o.missed, o.waiting ? 1 : 0,
            done(now, i) ? 1 : 0, heard}[what];
    }

    int drift(int i) {
        return told(i) ? now.ones[i].drift : -100;
    }

    int beat(int i, int k, int what) {
        if (no(i, 0, 7) || no(k, 0, rolls.get(i).size() - 1) || no(what, 0, 3)) {
            return -1;
        }
        Beat b = rolls.get(i).get(k);
        return new int[] {b.note, b.fermata ? 1 : 0, b.breath ? 1 : 0, b.begins ? 1 : 0}[what];
    }

    int end(int n, int what) {
        if (no(n, 1, 240) || no(what, 0, 1) || toldBits() == 0) {
            return -1;
        }
        List<All> row = states(n);
        for (int t = 0; t < row.size(); t++) {
            if (doneBits(row.get(t)) == toldBits()) {
                if (what == 0) {
                    return t;
                }
                if (t == 0) {
                    return -2;
                }
                int late = doneBits(row.get(t)) - doneBits(row.get(t - 1));
                return 31 - Integer.numberOfLeadingZeros(late);
            }
        }
        return -2;
    }

    int spread(int n) {
        if (no(n, 1, 240)) {
            return -1;
        }
        int most = 0;
        List<All> row = states(n);
        for (All all : row.subList(1, row.size())) {
            for (int i = 0; i < 8; i++) {
                for (int j = 0; j < 8; j++) {
                    if (told(i) && told(j) && !done(all, i) && !done(all, j)) {
                        most = Math.max(most, all.ones[i].at - all.ones[j].at);
                    }
                }
            }
        }
        return most;
    }

    int firstCome(int n, int what) {
        if (no(n, 1, 240) || no(what, 0, 1)) {
            return -1;
        }
        List<All> row = states(n);
        for (int t = 0; t < row.size(); t++) {
            int bits = waiting(row.get(t));
            if (bits != 0) {
                return what == 0 ? Integer.numberOfTrailingZeros(bits) : t;
            }
        }
        return -2;
    }

    private static boolean clash(int a, int b) {
        return a != 0 && b != 0 && (Math.abs(a - b) == 1 || Math.abs(a - b) == 6);
    }

    int sounds(int what) {
        if (no(what, 0, 1)) {
            return -1;
        }
        List<Integer> notes = new ArrayList<>();
        for (int i = 0; i < 8; i++) {
            if (told(i) && !done(now, i) && !now.ones[i].waiting) {
                notes.add(rolls.get(i).get(now.ones[i].at).note);
            }
        }
        int bits = 0;
        int clashes = 0;
        for (int a = 0; a < notes.size(); a++) {
            bits |= notes.get(a) == 0 ? 0 : 1 << notes.get(a);
            for (int b = a + 1; b < notes.size(); b++) {
                clashes += clash(notes.get(a), notes.get(b)) ? 1 : 0;
            }
        }
        return what == 0 ? bits : clashes;
    }

    int canon(int i, int j, int what) {
        if (no(i, 0, 7) || no(j, 0, 7) || no(what, 0, 59) && no(what, 100, 101)) {
            return -1;
        }
        int[] by = new int[60];
        for (int d = 0; d < 60; d++) {
            for (int b = 0; b < rolls.get(i).size(); b++) {
                if (!no(b - d, 0, rolls.get(j).size() - 1)) {
                    by[d] += clash(rolls.get(i).get(b).note, rolls.get(j).get(b - d).note) ? 1 : 0;
                }
            }
        }
        if (what < 60) {
            return by[what];
        }
        int best = 59;
        for (int d = 59; d >= 0; d--) {
            best = by[d] <= by[best] ? d : best;
        }
        return what == 100 ? best : by[best];
    }

    private List<Integer> tuneOf(int i) {
        List<Integer> row = new ArrayList<>();
        for (Beat b : rolls.get(i)) {
            if (b.begins && b.note > 0) {
                row.add(b.note);
            }
        }
        return row;
    }

    private static List<Integer> steps(List<Integer> tune) {
        List<Integer> row = new ArrayList<>();
        for (int k = 1; k < tune.size(); k++) {
            row.add(tune.get(k) - tune.get(k - 1));
        }
        return row;
    }

    int returns(int i, int j, int what) {
        if (no(i, 0, 7) || no(j, 0, 7) || no(what, 0, 3)) {
            return -1000;
        }
        List<Integer> one = tuneOf(i);
        List<Integer> other = tuneOf(j);
        for (int many = Math.min(one.size(), other.size()); many > 0; many--) {
            for (int p = 0; p + many <= one.size(); p++) {
                List<Integer> row = steps(one.subList(p, p + many));
                for (int q = 0; q + many <= other.size(); q++) {
                    if (row.equals(steps(other.subList(q, q + many)))) {
                        return new int[] {many, p, q, other.get(q) - one.get(p)}[what];
                    }
                }
            }
        }
        return what == 0 ? 0 : -2000;
    }

    int backwards(int i, int j) {
        if (no(i, 0, 7) || no(j, 0, 7)) {
            return -1;
        }
        List<Integer> one = tuneOf(i);
        java.util.Collections.reverse(one);
        return one.equals(tuneOf(j)) ? 1 : 0;
    }

    int range(int i) {
        if (no(i, 0, 7)) {
            return -1;
        }
        List<Integer> row = tuneOf(i);
        java.util.Collections.sort(row);
        return row.isEmpty() ? -2 : row.get(row.size() - 1) - row.get(0);
    }

    int alone(int i) {
        if (!told(i)) {
            return -1;
        }
        int ticks = 0;
        int phase = 0;
        int at = 0;
        while (at < rolls.get(i).size()) {
            ticks++;
            phase += 60 + now.ones[i].drift;
            while (phase >= tempo) {
                phase -= tempo;
                at++;
            }
        }
        return ticks;
    }

    int together(int i, int j, int n) {
        if (!told(i) || !told(j) || i == j || no(n, 1, 240)) {
            return -1;
        }
        int many = 0;
        List<All> row = states(n);
        for (All all : row.subList(1, row.size())) {
            many += all.ones[i].at == all.ones[j].at ? 1 : 0;
        }
        return many;
    }

    int attacks(int k) {
        if (no(k, 0, 59)) {
            return -1;
        }
        int many = 0;
        for (int i = 0; i < 8; i++) {
            if (told(i) && k < rolls.get(i).size()) {
                many += rolls.get(i).get(k).begins && rolls.get(i).get(k).note > 0 ? 1 : 0;
            }
        }
        return many;
    }

    int key(int i, int what) {
        if (no(i, 0, 7) || no(what, 0, 1)) {
            return -1;
        }
        int[] many = new int[8];
        for (Beat b : rolls.get(i)) {
            many[b.note]++;
        }
        int best = 7;
        for (int note = 7; note > 0; note--) {
            best = many[note] >= many[best] ? note : best;
        }
        return what == 1 ? many[best] : many[best] == 0 ? -2 : best;
    }

    int tune(int i, int k) {
        if (no(i, 0, 7) || k < 0) {
            return -1;
        }
        return k < tuneOf(i).size() ? tuneOf(i).get(k) : -2;
    }

    /** Level by level: all places at which the m-th BREATH can be, then the least row that gets through. */
    int breaths(int i, int k, int what) {
        if (no(i, 0, 7) || no(k, 1, 20) || no(what, 0, 59) && what != 100) {
            return -1;
        }
        List<Beat> roll = rolls.get(i);
        for (int many = 0; many <= 60; many++) {
            List<Integer> row = new ArrayList<>();
            if (place(roll, k, 0, many, row, new HashSet<>())) {
                return what == 100 ? many : what < many ? row.get(what) : -4;
            }
        }
        return -2;
    }

    private static boolean place(List<Beat> roll, int k, int from, int many, List<Integer> row, Set<Integer> dead) {
        int sung = 0;
        for (int b = from; b < roll.size(); b++) {
            sung += roll.get(b).note > 0 ? 1 : 0;
            boolean last = roll.get(b).note > 0 && (b + 1 == roll.size() || roll.get(b + 1).begins);
            if (sung > k) {
                break;
            }
            if (last && many > 0 && !dead.contains((b + 1) * 100 + many - 1)) {
                row.add(b + 1);
                if (place(roll, k, b + 1, many - 1, row, dead)) {
                    return true;
                }
                row.remove(row.size() - 1);
                dead.add((b + 1) * 100 + many - 1);
            }
        }
        return many == 0 && sung <= k;
    }

    private int shown(int i, int t) {
        return (int) Math.floorDiv((long) t * (60 + now.ones[i].drift), 60L);
    }

    int clock(int i, int t) {
        return !told(i) || no(t, 0, 100000) ? -1 : shown(i, t) % 43200;
    }

    int meet(int i, int j) {
        if (!told(i) || !told(j) || i == j) {
            return -1;
        }
        long t = 1;
        while (Math.floorMod(t * (60 + now.ones[i].drift) - t * (60 + now.ones[j].drift), 43200L * 60) != 0) {
            t++;
        }
        return (int) t;
    }

    int agree(int t, int apart, int what) {
        if (no(t, 0, 100000) || no(apart, 0, 9999) || no(what, 0, 1)) {
            return -1;
        }
        int best = 0;
        for (int bits = 255; bits > 0; bits--) {
            boolean fits = (bits & toldBits()) == bits;
            for (int i = 0; i < 8; i++) {
                for (int j = 0; j < 8; j++) {
                    if ((bits >> i & bits >> j & 1) != 0) {
                        fits = fits && Math.abs(shown(i, t) - shown(j, t)) <= apart;
                    }
                }
            }
            if (fits && Integer.bitCount(bits) >= Integer.bitCount(best)) {
                best = bits;
            }
        }
        return what == 0 ? Integer.bitCount(best) : best;
    }

    /** Those who come to hear i, found outwards from him. */
    private Set<Integer> listeners(int i) {
        Set<Integer> found = new HashSet<>();
        List<Integer> open = new ArrayList<>(List.of(i));
        while (!open.isEmpty()) {
            int j = open.remove(0);
            for (int l = 0; l < 8; l++) {
                if (hears(now, l, j) && found.add(l)) {
                    open.add(l);
                }
            }
        }
        found.remove(i);
        return found;
    }

    int leads(int i) {
        return told(i) ? listeners(i).stream().mapToInt(j -> 1 << j).sum() : -1;
    }

    int groups(int what) {
        if (what != 100 && !told(what)) {
            return -1;
        }
        Set<Integer> groups = new HashSet<>();
        for (int i = 0; i < 8; i++) {
            if (told(i) && (what == 100 || what == i)) {
                int bits = 1 << i;
                for (int j : listeners(i)) {
                    bits |= listeners(j).contains(i) ? 1 << j : 0;
                }
                groups.add(bits);
            }
        }
        return what == 100 ? groups.size() : groups.iterator().next();
    }

    /** SEATED by changing neighbours one by one. */
    int order(int what) {
        if (no(what, 0, 1)) {
            return -1;
        }
        List<Integer> row = new ArrayList<>();
        for (int seat = 0; seat < 16; seat++) {
            for (One o : now.ones) {
                if (o.told && o.seat == seat) {
                    row.add(o.drift);
                }
            }
        }
        int changes = 0;
        for (int turn = 0; turn < 8; turn++) {
            for (int k = 1; k < row.size(); k++) {
                if (row.get(k - 1) > row.get(k)) {
                    row.add(k - 1, row.remove(k));
                    changes++;
                }
            }
        }
        int off = row.isEmpty() ? 0 : row.get(row.size() - 1) - row.get(0);
        return what == 0 ? off : changes;
    }

    boolean seed(int x) {
        if (no(x, 0, 65535)) {
            return false;
        }
        now.x = x;
        return true;
    }

    int keep() {
        kept = now.copy();
        return now.tick;
    }

    boolean undo() {
        if (kept == null) {
            return false;
        }
        now = kept.copy();
        for (int i = 0; i < 8; i++) {
            One o = now.ones[i];
            o.at = Math.min(o.at, rolls.get(i).size());
            o.waiting &= !done(now, i);
        }
        return true;
    }

    int check(int n) {
        if (no(n, 0, 8) || n > tape.length()) {
            return -2;
        }
        String text = take(n);
        for (int i = 0; i < n; i++) {
            if (text.charAt(i) != (told(i) ? now.ones[i].at : 0)) {
                return i;
            }
        }
        return -1;
    }

    int count(int what) {
        if (!no(what, 10, 17)) {
            return rolls.get(what - 10).size();
        }
        if (!no(what, 20, 27)) {
            return fermatas(what - 20);
        }
        if (no(what, 0, 8)) {
            return -1;
        }
        return new int[] {now.tick, toldBits(), doneBits(now), waiting(now), ears, tempo, rules.size(), tape.length(),
            (int) now.x}[what];
    }
}
