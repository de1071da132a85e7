/** Promises 32 to 36: owed, files. */
public final class OwedFilesTest {
    private static final Check CHECK = new Check("OwedFilesTest");
    private static final int[] NO_PAPER = {-1, 8, Integer.MIN_VALUE, Integer.MAX_VALUE, NamesInRow.NONE};
    private static final int[] NO_PERSON = {-1, 7, Integer.MIN_VALUE, Integer.MAX_VALUE, NamesInRow.NONE};
    private static final int[] NO_SET = {-1, 128, Integer.MIN_VALUE, Integer.MAX_VALUE, NamesInRow.NONE};
    private static final int[] NO_PLACE = {-1, 7, Integer.MIN_VALUE, Integer.MAX_VALUE, NamesInRow.NONE};
    private static final int[] NO_TRADE = {-2, 3, Integer.MIN_VALUE, Integer.MAX_VALUE, NamesInRow.NONE};
    private static final int[] NO_HUNDREDTH = {-1, 101, Integer.MIN_VALUE, Integer.MAX_VALUE};

    public static void main(String[] args) {
        owed();
        owedMost();
        next();
        keepWithin();
        keepOfLikeOnes();
        keepRefused();
        count();
        countRefused();
        CHECK.end();
    }

    /** PAPER 0, TRADE 0: ROW 0 1 2, by SHARE 2 1 0. PAPER 1, TRADE 1: ROW 2 0, by SHARE 0 2. */
    private static NamesInRow twoPapers() {
        NamesInRow x = new NamesInRow();
        for (int person = 0; person < 3; person++) {
            x.hours(0, 0, person, person + 1);
            x.name(0, person);
        }
        x.trade(1, 1);
        x.name(1, 2);
        x.name(1, 0);
        x.hours(1, 0, 5, 9);
        return x;
    }

    private static void owedDue(NamesInRow x, int trade, int... due) {
        for (int person = 0; person < due.length; person++) {
            CHECK.due("32: owed(" + person + ", " + trade + ")", x.owed(person, trade), due[person]);
        }
    }

    private static void owed() {
        owedDue(new NamesInRow(), -1, 1000, 1000, 1000, 1000, 1000, 1000, 1000);
        NamesInRow x = twoPapers();
        owedDue(x, 0, 998, 1000, 1002, 1000, 1000, 1000, 1000);
        owedDue(x, 1, 1001, 1000, 999, 1000, 1000, 1000, 1000);
        owedDue(x, 2, 1000, 1000, 1000, 1000, 1000, 1000, 1000);
        owedDue(x, -1, 999, 1000, 1001, 1000, 1000, 1000, 1000);
        x.trade(1, 0);
        owedDue(x, 0, 999, 1000, 1001, 1000);
        owedDue(x, 1, 1000, 1000, 1000, 1000);
        // THE ROOM does not change what is OWED: it is by SHARE.
        x.room(0, 2);
        owedDue(x, 0, 999, 1000, 1001, 1000);
        x.unname(0);
        owedDue(x, -1, 1001, 1000, 999, 1000);
        for (int person : NO_PERSON) {
            CHECK.due("32: no person", x.owed(person, 0), -1);
            CHECK.due("32: UNKNOWN is first", x.owed(person, 3), -1);
        }
        for (int trade : NO_TRADE) {
            CHECK.due("32: no trade", x.owed(0, trade), -2);
        }
    }

    private static void owedMost() {
        NamesInRow x = new NamesInRow();
        for (int paper = 0; paper < 8; paper++) {
            for (int person = 0; person < 7; person++) {
                x.name(paper, person);
                x.hours(paper, 0, person, person);
            }
        }
        owedDue(x, -1, 952, 968, 984, 1000, 1016, 1032, 1048);
    }

    private static void nextDue(NamesInRow x, int set, int trade, int... due) {
        for (int i = 0; i < 7; i++) {
            CHECK.due("33: next(" + set + ", " + trade + ", " + i + ")", x.next(set, trade, i),
                    i < due.length ? due[i] : NamesInRow.NONE);
        }
        for (int place : NO_PLACE) {
            CHECK.due("33: no place", x.next(set, trade, place), NamesInRow.NONE);
        }
    }

    private static void next() {
        NamesInRow x = twoPapers();
        nextDue(x, 127, 0, 2, 1, 3, 4, 5, 6, 0);
        nextDue(x, 127, 1, 0, 1, 3, 4, 5, 6, 2);
        nextDue(x, 127, 2, 0, 1, 2, 3, 4, 5, 6);
        nextDue(x, 127, -1, 2, 1, 3, 4, 5, 6, 0);
        nextDue(x, 1 + 4 + 64, 0, 2, 6, 0);
        nextDue(x, 1 + 4 + 64, 1, 0, 6, 2);
        nextDue(x, 2, -1, 1);
        nextDue(x, 0, -1);
        for (int set : NO_SET) {
            CHECK.due("33: no set", x.next(set, 0, 0), -2);
            CHECK.due("33: no set, no place", x.next(set, 0, -1), -2);
        }
        for (int trade : NO_TRADE) {
            CHECK.due("33: no trade", x.next(127, trade, 0), -2);
            CHECK.due("33: no trade, no place", x.next(127, trade, 7), -2);
        }
    }

    /** PAPER 6 with these WEIGHTS and COSTS, all TASKS with HOURS. */
    private static NamesInRow files(int[] weights, int[] costs) {
        NamesInRow x = new NamesInRow();
        for (int task = 0; task < 4; task++) {
            x.task(6, task, 0, weights[task]);
            x.task(6, task, 1, costs[task]);
            x.hours(6, task, task, 2);
        }
        return x;
    }

    private static void keepDue(String what, NamesInRow x, int w, int tasks, int cost) {
        CHECK.due("34: " + what + ", within " + w, x.keep(6, w), tasks);
        CHECK.due("35: " + what + ", within " + w, x.cost(6, w), cost);
    }

    private static void keepWithin() {
        keepDue("nothing is done", new NamesInRow(), 0, 0, 0);
        keepDue("nothing is done", new NamesInRow(), 100, 0, 0);
        NamesInRow x = files(new int[] {1, 2, 0, 0}, new int[] {50, 50, 0, 0});
        keepDue("1 and 2 of 3", x, 0, 3, 100);
        keepDue("1 and 2 of 3", x, 33, 3, 100);
        keepDue("1 and 2 of 3", x, 34, 2, 50);
        keepDue("1 and 2 of 3", x, 66, 2, 50);
        keepDue("1 and 2 of 3", x, 67, 1, 50);
        keepDue("1 and 2 of 3", x, 99, 1, 50);
        keepDue("1 and 2 of 3", x, 100, 0, 0);
        x.hours(6, 1, 1, 0);
        keepDue("one is not done", x, 0, 1, 50);
        x.task(6, 1, 1, 0);
        keepDue("one is not done and costs nothing", x, 0, 1, 50);
        NamesInRow y = files(new int[] {1, 1, 1, 1}, new int[] {5, 4, 3, 2});
        keepDue("four alike", y, 24, 15, 14);
        keepDue("four alike", y, 25, 14, 9);
        keepDue("four alike", y, 50, 12, 5);
        keepDue("four alike", y, 75, 8, 2);
        y.task(6, 3, 1, 50);
        keepDue("the last is dear", y, 25, 7, 12);
    }

    private static void keepOfLikeOnes() {
        int[] even = {1, 1, 1, 1};
        keepDue("the least number", files(even, even), 25, 7, 3);
        keepDue("the least number", files(even, even), 50, 3, 2);
        keepDue("the least number", files(even, even), 75, 1, 1);
        keepDue("the fewest", files(new int[] {1, 1, 2, 0}, new int[] {1, 1, 2, 0}), 50, 4, 2);
        keepDue("the least cost before the fewest",
                files(new int[] {1, 1, 2, 0}, new int[] {1, 1, 3, 0}), 50, 3, 2);
        keepDue("no more files than needed, if they cost nothing",
                files(new int[] {1, 1, 2, 0}, new int[] {0, 0, 0, 0}), 50, 4, 0);
        keepDue("no file is needed, if they cost nothing",
                files(new int[] {1, 1, 2, 9}, new int[] {0, 0, 0, 0}), 100, 0, 0);
    }

    private static void keepRefused() {
        NamesInRow x = files(new int[] {1, 2, 0, 0}, new int[] {50, 50, 0, 0});
        for (int paper : NO_PAPER) {
            CHECK.due("34: no paper", x.keep(paper, 0), -1);
            CHECK.due("34: UNKNOWN is first", x.keep(paper, 101), -1);
            CHECK.due("35: no paper", x.cost(paper, 0), -1);
            CHECK.due("35: UNKNOWN is first", x.cost(paper, 101), -1);
        }
        for (int w : NO_HUNDREDTH) {
            CHECK.due("34: no hundredth", x.keep(6, w), -2);
            CHECK.due("35: no hundredth", x.cost(6, w), -2);
        }
    }

    private static void count() {
        NamesInRow x = new NamesInRow();
        x.name(0, 1);
        x.name(7, 1);
        x.name(7, 2);
        CHECK.due("36: papers with a row", x.count(0), 2);
        CHECK.due("36: names", x.count(1), 3);
        x.unname(0);
        CHECK.due("36: papers with a row, one less", x.count(0), 1);
        CHECK.due("36: names, one less", x.count(1), 2);
        x.hours(3, 1, 0, 1);
        CHECK.due("36: hours and no weight", x.count(2), 0);
        x.task(3, 1, 0, 1);
        x.hours(7, 0, 6, 1);
        x.task(7, 2, 0, 9);
        CHECK.due("36: tasks done", x.count(2), 2);
        x.task(3, 1, 0, 0);
        CHECK.due("36: tasks done, one less", x.count(2), 1);
        x.claim(2, 0, 100);
        CHECK.due("36: 100 is not over", x.count(3), 0);
        x.claim(2, 1, 1);
        x.claim(7, 1, 60);
        x.claim(7, 2, 60);
        CHECK.due("36: over", x.count(3), 2);
    }

    private static void countRefused() {
        NamesInRow x = new NamesInRow();
        CHECK.due("36: -1", x.count(-1), -2);
        CHECK.due("36: 4", x.count(4), -2);
        CHECK.due("36: far", x.count(Integer.MAX_VALUE), -2);
        CHECK.due("36: far below", x.count(Integer.MIN_VALUE), -2);
    }
}
