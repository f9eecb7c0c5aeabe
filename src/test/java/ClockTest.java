/** Promises 28 to 33: clocks, when two are one again, which agree, who leads whom, who sits where. */
public final class ClockTest {
    public static void main(String[] args) {
        clock();
        meet();
        agree();
        leadsAndGroups();
        order();
        Due.finish("ClockTest");
    }

    private static void clock() {
        ClockChoir x = new ClockChoir();
        x.singer(0, -20, 0, 0, 1);
        x.singer(1, 20, 0, 0, 1);
        x.singer(2, 7, 0, 0, 1);
        Due.due("clock(0, 0)", 0, x.clock(0, 0));
        Due.due("clock(0, 1)", 0, x.clock(0, 1));
        Due.due("clock(0, 2)", 1, x.clock(0, 2));
        Due.due("clock(0, 64799)", 43199, x.clock(0, 64799));
        Due.due("clock(0, 64800)", 0, x.clock(0, 64800));
        Due.due("clock(1, 32399)", 43198, x.clock(1, 32399));
        Due.due("clock(1, 32400)", 0, x.clock(1, 32400));
        Due.due("clock(1, 100000)", 133333 - 3 * 43200, x.clock(1, 100000));
        Due.due("clock(2, 59)", 65, x.clock(2, 59));
        Due.due("clock(0, -1)", -1, x.clock(0, -1));
        Due.due("clock(0, 100001)", -1, x.clock(0, 100001));
        Due.due("clock(3, 0)", -1, x.clock(3, 0));
        Due.due("clock(8, 0)", -1, x.clock(8, 0));
        Due.due("clock(-1, 0)", -1, x.clock(-1, 0));
    }

    private static void meet() {
        ClockChoir x = new ClockChoir();
        x.singer(0, 0, 0, 0, 1);
        for (int drift = -20; drift <= 20; drift++) {
            x.singer(1, drift, 0, 0, 1);
            int due = 1;
            while ((long) due * drift % 2592000 != 0) {
                due++;
            }
            Due.due("meet by " + drift, due, x.meet(0, 1));
            Due.due("meet by " + drift, due, x.meet(1, 0));
        }
        x.singer(2, 20, 0, 0, 1);
        x.singer(3, -19, 0, 0, 1);
        Due.due("39 between", 2592000 / 3, x.meet(2, 3));
        Due.due("the same one", -1, x.meet(0, 0));
        Due.due("one is not told", -1, x.meet(0, 4));
        Due.due("one is not told", -1, x.meet(4, 0));
        Due.due("meet(-1, 0)", -1, x.meet(-1, 0));
        Due.due("meet(0, 8)", -1, x.meet(0, 8));
    }

    private static void agree() {
        ClockChoir x = new ClockChoir();
        Due.due("nobody is told", 0, x.agree(0, 0, 0));
        ClockChoir y = new ClockChoir();
        y.singer(0, 5, 0, 0, 1);
        Due.due("0 alone", 1, y.agree(9, 0, 0));
        Due.due("0 alone", 1, y.agree(9, 0, 1));
        int[] drifts = {20, 0, 1, 19, -20, 2};
        for (int i = 0; i < drifts.length; i++) {
            x.singer(i + 1, drifts[i], 0, 0, 1);
        }
        // behind 60 seconds: 80 60 61 79 40 62, of SINGERS 1 to 6
        Due.due("agree(60, 0, 0)", 1, x.agree(60, 0, 0));
        Due.due("the least bits", 1 << 1, x.agree(60, 0, 1));
        Due.due("agree(60, 1, 0)", 2, x.agree(60, 1, 0));
        Due.due("2 and 3, or 1 and 4, or 3 and 6", 1 << 2 | 1 << 3, x.agree(60, 1, 1));
        Due.due("agree(60, 2, 1)", 1 << 2 | 1 << 3 | 1 << 6, x.agree(60, 2, 1));
        Due.due("agree(60, 19, 0)", 4, x.agree(60, 19, 0));
        Due.due("agree(60, 19, 1)", 1 << 1 | 1 << 3 | 1 << 4 | 1 << 6, x.agree(60, 19, 1));
        Due.due("agree(60, 20, 0)", 5, x.agree(60, 20, 0));
        Due.due("agree(60, 39, 0)", 5, x.agree(60, 39, 0));
        Due.due("agree(60, 40, 1)", 126, x.agree(60, 40, 1));
        Due.due("agree(0, 0, 1)", 126, x.agree(0, 0, 1));
        x.singer(0, 19, 0, 0, 1);
        Due.due("0 and 4: the least bits", 1 << 0 | 1 << 4, x.agree(60, 0, 1));
        x.singer(0, 11, 0, 0, 1);
        // rounded down: behind 30 seconds 40 30 30 39 20 31
        Due.due("agree(30, 0, 1)", 1 << 2 | 1 << 3, x.agree(30, 0, 1));
        // not on a dial: 133333 and 66666 behind 100000 seconds
        Due.due("agree(100000, 9999, 0)", 3, x.agree(100000, 9999, 0));
        for (int[] w : new int[][] {{-1, 0, 0}, {100001, 0, 0}, {0, -1, 0}, {0, 10000, 0}, {0, 0, -1}, {0, 0, 2}}) {
            Due.due("agree of no such ones", -1, x.agree(w[0], w[1], w[2]));
        }
    }

    private static void leadsAndGroups() {
        ClockChoir x = new ClockChoir();
        // In a row, each DEAF to the left: each hears those to the right of him.
        for (int i = 0; i < 4; i++) {
            x.singer(i, 0, 2 * i, 1, 1);
        }
        x.ears(2);
        Due.due("whom 0 HEARS", 2, x.singerIs(0, 9));
        Due.due("leads(3)", 7, x.leads(3));
        Due.due("leads(1)", 1, x.leads(1));
        Due.due("leads(0)", 0, x.leads(0));
        Due.due("groups(100)", 4, x.groups(100));
        Due.due("groups(2)", 4, x.groups(2));
        // 3 turns round: he and 2 hear each other.
        x.singer(3, 0, 6, 2, 1);
        Due.due("3 hears 2", 3, x.groups(100));
        Due.due("groups(3)", 12, x.groups(3));
        Due.due("leads(2)", 11, x.leads(2));
        Due.due("leads(3)", 7, x.leads(3));
        x.singer(2, 0, 4, 0, 1);
        x.singer(1, 0, 2, 0, 1);
        Due.due("leads(0): all but he himself", 14, x.leads(0));
        Due.due("leads(3)", 7, x.leads(3));
        Due.due("all are one group", 1, x.groups(100));
        Due.due("groups(0)", 15, x.groups(0));
        x.singer(7, 0, 15, 0, 1);
        Due.due("one aside", 2, x.groups(100));
        Due.due("groups(7)", 128, x.groups(7));
        Due.due("leads(7)", 0, x.leads(7));
        // 1 hears 0 alone and 0 hears 2 alone, who hears nobody.
        ClockChoir y = new ClockChoir();
        y.singer(1, 0, 0, 1, 1);
        y.singer(0, 0, 3, 1, 1);
        y.singer(2, 0, 6, 3, 1);
        y.ears(3);
        Due.due("by 0", 3, y.leads(2));
        Due.due("1 himself leads nobody", 0, y.leads(1));
        Due.due("groups(4)", -1, x.groups(4));
        Due.due("groups(8)", -1, x.groups(8));
        Due.due("groups(-1)", -1, x.groups(-1));
        Due.due("groups(101)", -1, x.groups(101));
        Due.due("leads(4)", -1, x.leads(4));
        Due.due("leads(8)", -1, x.leads(8));
        Due.due("leads(-1)", -1, x.leads(-1));
    }

    private static void order() {
        ClockChoir x = new ClockChoir();
        Due.due("order(-1)", -1, x.order(-1));
        Due.due("order(2)", -1, x.order(2));
        Due.due("nobody: OFF THE BEAT", 0, x.order(0));
        Due.due("nobody: SEATED", 0, x.order(1));
        x.singer(5, -3, 4, 0, 1);
        Due.due("one: OFF THE BEAT", 0, x.order(0));
        x.singer(1, -9, 4, 0, 1);
        Due.due("OFF THE BEAT", 6, x.order(0));
        Due.due("of one SEAT by numbers", 0, x.order(1));
        x.singer(6, -9, 4, 0, 1);
        Due.due("5 ahead of 6", 1, x.order(1));
        x.singer(0, -9, 15, 0, 1);
        Due.due("of like DRIFTS none", 2, x.order(1));
        x.singer(7, 20, 0, 0, 1);
        Due.due("7 ahead of all", 6, x.order(1));
        ClockChoir y = new ClockChoir();
        y.singer(0, 1, 3, 0, 1);
        y.singer(1, 0, 4, 0, 1);
        Due.due("0 by one", 1, y.order(1));
        y.singer(1, 0, 2, 0, 1);
        Due.due("0 behind 1", 0, y.order(1));
        Due.due("OFF THE BEAT by one", 1, y.order(0));
        Due.due("OFF THE BEAT", 29, x.order(0));
    }
}
