/** Edges of promises 28 to 33, a method for each sentence. */
public final class EdgesClockTest {
    public static void main(String[] args) {
        boundsOfClock();
        roundedDown();
        onTheDial();
        boundsOfMeet();
        noDriftBetween();
        alikeAgain();
        boundsOfAgree();
        apartToTheSecond();
        notOnADial();
        theLeastBits();
        boundsOfLeads();
        directlyOrByOthers();
        byEachOther();
        boundsOfGroups();
        groupsBothWays();
        boundsOfOrder();
        offTheBeat();
        seated();
        Due.finish("EdgesClockTest");
    }

    private static ClockChoir drifts(int... drifts) {
        ClockChoir x = new ClockChoir();
        for (int i = 0; i < drifts.length; i++) {
            x.singer(i, drifts[i], i, 0, 1);
        }
        return x;
    }

    private static void boundsOfClock() {
        Due.by("CLOCKS: what a told SINGER's shows behind t seconds (0 to 100000); NONE: no such ones.");
        ClockChoir x = drifts(0, 20);
        ClockChoir slow = drifts(-20);
        for (int t : Edges.around(0, 100000)) {
            boolean can = Edges.within(t, 0, 100000);
            Due.due("clock(0, " + t + ")", can ? t % 43200 : -1, x.clock(0, t));
            Due.due("a slow clock at " + t, can ? t * 40 / 60 % 43200 : -1, slow.clock(0, t));
        }
        for (int i : Edges.around(0, 7)) {
            Due.due("clock(" + i + ", 60)", i == 0 ? 60 : i == 1 ? 80 : -1, x.clock(i, 60));
        }
    }

    private static void roundedDown() {
        Due.by("t times (60 and DRIFT) through 60, rounded down, modulo 43200");
        for (int drift = -20; drift <= 20; drift++) {
            ClockChoir x = drifts(drift);
            for (int t : new int[] {0, 1, 2, 3, 59, 60, 61, 119, 43199, 43200, 99999, 100000}) {
                long shown = Math.floorDiv((long) t * (60 + drift), 60L);
                Due.due("behind " + t + " by " + drift, shown % 43200, x.clock(0, t));
            }
        }
    }

    private static void onTheDial() {
        Due.by("modulo 43200");
        ClockChoir x = drifts(0, 20, -20);
        Due.due("clock(0, 43199)", 43199, x.clock(0, 43199));
        Due.due("clock(0, 43200)", 0, x.clock(0, 43200));
        Due.due("clock(0, 43201)", 1, x.clock(0, 43201));
        Due.due("clock(0, 86399)", 43199, x.clock(0, 86399));
        Due.due("clock(0, 86400)", 0, x.clock(0, 86400));
        Due.due("clock(1, 97199)", 43198, x.clock(1, 97199));
        Due.due("clock(1, 97200)", 0, x.clock(1, 97200));
        Due.due("clock(2, 64799)", 43199, x.clock(2, 64799));
        Due.due("clock(2, 64800)", 0, x.clock(2, 64800));
    }

    private static void boundsOfMeet() {
        Due.by("MEET of two told SINGERS (not the same): seconds; NONE: no such ones.");
        ClockChoir x = drifts(0, 1);
        for (int i : Edges.around(0, 7)) {
            Due.due("meet(" + i + ", 1)", i == 0 ? 2592000 : -1, x.meet(i, 1));
            Due.due("meet(0, " + i + ")", i == 1 ? 2592000 : -1, x.meet(0, i));
            Due.due("meet(" + i + ", " + i + ")", -1, x.meet(i, i));
        }
        Due.due("2 is not told", -1, x.meet(0, 2));
    }

    private static void noDriftBetween() {
        Due.by("(no DRIFT between: 1)");
        for (int drift = -20; drift <= 20; drift++) {
            ClockChoir x = drifts(drift, drift);
            Due.due("both by " + drift, 1, x.meet(0, 1));
        }
    }

    private static void alikeAgain() {
        Due.by("MEET: behind how many seconds (more than 0) clocks of two are alike again to a 60th on a dial of 43200 seconds");
        for (int between = 1; between <= 40; between++) {
            ClockChoir x = drifts(-20, -20 + between);
            int seconds = 2592000;
            for (int t = 1; t < seconds; t++) {
                if ((long) t * between % 2592000 == 0) {
                    seconds = t;
                }
            }
            Due.due(between + " between", seconds, x.meet(0, 1));
            Due.due("the other way round", seconds, x.meet(1, 0));
        }
    }

    private static void boundsOfAgree() {
        Due.by("AGREE behind t seconds (0 to 100000), so many apart (0 to 9999), what 0 how many, 1 which (bits); NONE: no such ones.");
        ClockChoir x = drifts(0, 20);
        ClockChoir nobody = new ClockChoir();
        for (int t : Edges.around(0, 100000)) {
            boolean can = Edges.within(t, 0, 100000);
            int due = !can ? -1 : t * 80 / 60 - t <= 0 ? 2 : 1;
            Due.due("agree(" + t + ", 0, 0)", due, x.agree(t, 0, 0));
            Due.due("nobody is told", can ? 0 : -1, nobody.agree(t, 0, 0));
        }
        for (int apart : Edges.around(0, 9999)) {
            boolean can = Edges.within(apart, 0, 9999);
            Due.due("agree(29997, " + apart + ", 0)", !can ? -1 : apart >= 9999 ? 2 : 1, x.agree(29997, apart, 0));
            Due.due("nobody is told", can ? 0 : -1, nobody.agree(5, apart, 1));
        }
        for (int what : Edges.around(0, 1)) {
            Due.due("agree(0, 0, " + what + ")", what == 0 ? 2 : what == 1 ? 3 : -1, x.agree(0, 0, what));
            Due.due("nobody is told", Edges.within(what, 0, 1) ? 0 : -1, nobody.agree(0, 0, what));
        }
    }

    private static void apartToTheSecond() {
        Due.by("the most told SINGERS whose clocks are no more than so many seconds apart behind t seconds, each two of them");
        ClockChoir x = drifts(0, 1, 2, 3, 4, 5, 6, 7);
        for (int apart = 0; apart <= 9; apart++) {
            Due.due("agree(60, " + apart + ", 0)", Math.min(8, apart + 1), x.agree(60, apart, 0));
            Due.due("agree(60, " + apart + ", 1)", Math.min(255, (2 << apart) - 1), x.agree(60, apart, 1));
        }
        ClockChoir y = drifts(0, 10, 20);
        Due.due("each to the next, but not all", 2, y.agree(60, 10, 0));
        Due.due("all", 3, y.agree(60, 20, 0));
        Due.due("all but for one second", 2, y.agree(60, 19, 0));
    }

    private static void notOnADial() {
        Due.by("(not on a dial: rounded down as above, without modulo)");
        ClockChoir x = drifts(0, 20);
        Due.due("43194 and 57592", 1, x.agree(43194, 9999, 0));
        // Behind 32400 seconds the one shows 43200, the other 32400; on a dial that would be 0.
        Due.due("10800 apart", 1, x.agree(32400, 9999, 0));
        ClockChoir y = drifts(0, 1);
        Due.due("43200 and 43920: not 0 and 720 alone", 2, y.agree(43200, 720, 0));
        Due.due("719", 1, y.agree(43200, 719, 0));
        // On a dial 43199 and 719 would be far apart.
        Due.due("43199 and 43918", 2, y.agree(43199, 719, 0));
        Due.due("718", 1, y.agree(43199, 718, 0));
        ClockChoir far = drifts(20, 20, 14);
        Due.due("133333 twice, and 123333", 2, far.agree(100000, 9999, 0));
        Due.due("133333 twice", 3, far.agree(100000, 9999, 1));
        ClockChoir near = drifts(20, 15);
        Due.due("133333 and 125000", 2, near.agree(100000, 8333, 0));
        Due.due("133333 and 125000", 1, near.agree(100000, 8332, 0));
        ClockChoir z = drifts(-20, 1);
        Due.due("rounded down: 0 and 1", 1, z.agree(1, 0, 0));
        Due.due("rounded down: 1 and 2", 2, z.agree(2, 1, 0));
        ClockChoir w = drifts(0, 19);
        Due.due("rounded down: 3 and 3", 2, w.agree(3, 0, 0));
        Due.due("rounded down: 4 and 5", 1, w.agree(4, 0, 0));
    }

    private static void theLeastBits() {
        Due.by("of like ones the least bits");
        ClockChoir x = drifts(5, 1, 5, 1, 9, 9, 1, 5);
        Due.due("three and three", 3, x.agree(60, 0, 0));
        Due.due("1, 3, 6 are less than 0, 2, 7", 0b1001010, x.agree(60, 0, 1));
        ClockChoir y = drifts(5, 1, 5, 1);
        Due.due("0 and 2 are less than 1 and 3", 0b101, y.agree(60, 0, 1));
        ClockChoir z = drifts(1, 2, 3);
        Due.due("of ones alone 0", 1, z.agree(60, 0, 1));
    }

    private static void boundsOfLeads() {
        Due.by("LEADS of a told SINGER (bits); NONE: no such one.");
        ClockChoir x = drifts(0, 0);
        for (int i : Edges.around(0, 7)) {
            Due.due("leads(" + i + ")", i == 0 ? 2 : i == 1 ? 1 : -1, x.leads(i));
        }
        Due.due("5 is not told", -1, x.leads(5));
    }

    private static void directlyOrByOthers() {
        Due.by("LEADS: told SINGERS who come to hear one, directly or by others (he himself aside).");
        ClockChoir x = new ClockChoir();
        x.ears(2);
        // In a row from 7 down to 0, each DEAF to the right: each hears his neighbour to the left.
        for (int i = 0; i < 8; i++) {
            x.singer(i, 0, 14 - 2 * i, 2, 1);
        }
        for (int i = 0; i < 8; i++) {
            Due.due("leads(" + i + ")", (1 << i) - 1, x.leads(i));
        }
        x.ears(1);
        for (int i = 0; i < 8; i++) {
            Due.due("too far: leads(" + i + ")", 0, x.leads(i));
        }
        x.ears(2);
        for (int i = 0; i < 8; i++) {
            x.singer(i, 0, 14 - 2 * i, 0, 1);
        }
        for (int i = 0; i < 8; i++) {
            Due.due("he himself aside: leads(" + i + ")", 255 & ~(1 << i), x.leads(i));
        }
        x.singer(4, 0, 6, 3, 1);
        Due.due("4 hears nobody: leads(0)", 0b00001110, x.leads(0));
        Due.due("leads(4)", 255 & ~(1 << 4), x.leads(4));
        Due.due("leads(7)", 0b01100000, x.leads(7));
    }

    private static void byEachOther() {
        Due.by("directly or by others");
        // The same row with other numbers: each one is in the middle once, at either end once.
        for (int first = 0; first < 8; first++) {
            ClockChoir x = new ClockChoir();
            x.ears(2);
            for (int k = 0; k < 8; k++) {
                x.singer((first + k) % 8, 0, 2 * k, 1, 1);
            }
            int before = 0;
            for (int k = 0; k < 8; k++) {
                int i = (first + k) % 8;
                Due.due("leads(" + i + ") in the row from " + first, before, x.leads(i));
                Due.due("groups(" + i + ")", 1 << i, x.groups(i));
                before |= 1 << i;
            }
        }
    }

    private static void boundsOfGroups() {
        Due.by("GROUPS, what 100 how many, else the group of told SINGER what (bits); NONE: no such ones.");
        ClockChoir x = drifts(0, 0);
        for (int what : Edges.around(0, 7)) {
            Due.due("groups(" + what + ")", what == 0 || what == 1 ? 3 : -1, x.groups(what));
        }
        for (int what : Edges.around(100, 100)) {
            Due.due("groups(" + what + ")", what == 100 ? 1 : what == 0 ? 3 : -1, x.groups(what));
        }
        Due.due("of nobody", 0, new ClockChoir().groups(100));
        Due.due("of nobody", -1, new ClockChoir().groups(0));
    }

    private static void groupsBothWays() {
        Due.by("GROUPS: SINGERS who come to hear each other both ways: how many; one's (bits).");
        ClockChoir x = new ClockChoir();
        x.ears(0);
        for (int i = 0; i < 8; i++) {
            x.singer(i, 0, i, 0, 1);
            Due.due("each alone", i + 1, x.groups(100));
            Due.due("his own", 1 << i, x.groups(i));
        }
        x.ears(1);
        Due.due("all together", 1, x.groups(100));
        Due.due("groups(7)", 255, x.groups(7));
        x.singer(3, 0, 3, 3, 1);
        Due.due("3 hears nobody", 3, x.groups(100));
        int[] due = {7, 7, 7, 8, 0xf0, 0xf0, 0xf0, 0xf0};
        for (int i = 0; i < 8; i++) {
            Due.due("groups(" + i + ")", due[i], x.groups(i));
        }
        x.singer(3, 0, 3, 1, 1);
        // 3 hears 4 and is heard by 4 and by 2, whom he does not hear.
        Due.due("one way alone", 2, x.groups(100));
        Due.due("groups(3)", 0xf8, x.groups(3));
        Due.due("groups(2)", 7, x.groups(2));
    }

    private static void boundsOfOrder() {
        Due.by("What 0 OFF THE BEAT (nobody is told: 0), 1 SEATED; NONE: no such what.");
        ClockChoir x = drifts(20, -20);
        ClockChoir nobody = new ClockChoir();
        for (int what : Edges.around(0, 1)) {
            Due.due("order(" + what + ")", what == 0 ? 40 : what == 1 ? 1 : -1, x.order(what));
            Due.due("nobody is told", Edges.within(what, 0, 1) ? 0 : -1, nobody.order(what));
        }
    }

    private static void offTheBeat() {
        Due.by("OFF THE BEAT: how much the quickest speed (60 and DRIFT) of told SINGERS is above the slowest.");
        Due.due("one below 0", 0, drifts(-20).order(0));
        Due.due("one above 0", 0, drifts(20).order(0));
        Due.due("like ones", 0, drifts(7, 7, 7).order(0));
        Due.due("all below 0", 15, drifts(-20, -5, -9).order(0));
        Due.due("all above 0", 15, drifts(20, 5, 9).order(0));
        Due.due("the most there is", 40, drifts(0, 20, 3, -20, 0, 0, 0, 0).order(0));
    }

    private static int bySeats(int[] seats, int... drifts) {
        ClockChoir x = new ClockChoir();
        for (int i = 0; i < drifts.length; i++) {
            x.singer(i, drifts[i], seats[i], 0, 1);
        }
        return x.order(1);
    }

    private static void seated() {
        Due.by("SEATED: changes of two neighbours by SEAT (of one SEAT by numbers) till DRIFTS rise.");
        int[] row = {0, 1, 2, 3, 4, 5, 6, 7};
        int[] back = {15, 13, 11, 9, 7, 5, 3, 1};
        int[] same = {6, 6, 6, 6, 6, 6, 6, 6};
        Due.due("one", 0, bySeats(row, 5));
        Due.due("they rise", 0, bySeats(row, -20, -9, 0, 1, 2, 3, 4, 20));
        Due.due("they fall", 28, bySeats(row, 20, 9, 0, -1, -2, -3, -4, -20));
        Due.due("seated the other way round they rise", 0, bySeats(back, 20, 9, 0, -1, -2, -3, -4, -20));
        Due.due("seated the other way round they fall", 28, bySeats(back, -20, -9, 0, 1, 2, 3, 4, 20));
        Due.due("of one SEAT by numbers: they rise", 0, bySeats(same, 1, 2, 3));
        Due.due("of one SEAT by numbers: they fall", 3, bySeats(same, 3, 2, 1));
        Due.due("like ones", 0, bySeats(row, 4, 4, 4, 4));
        Due.due("two neighbours", 1, bySeats(row, 1, 3, 2, 4));
        Due.due("the last comes first", 3, bySeats(row, 2, 3, 4, 1));
        Due.due("two SEATS: 0 and 2 sit together", 2, bySeats(new int[] {5, 4, 5}, 1, 3, 2));
    }
}
