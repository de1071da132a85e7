/** Promises 17 to 20: counting. */
public final class CountingTest {
    private static final Check CHECK = new Check("CountingTest");
    private static final int[] NO_PAPER = {-1, 8, Integer.MIN_VALUE, Integer.MAX_VALUE, NamesInRow.NONE};
    private static final int[] NO_PERSON = {-1, 7, Integer.MIN_VALUE, Integer.MAX_VALUE, NamesInRow.NONE};
    private static final int[] NO_WAY = {-1, 5, Integer.MIN_VALUE, Integer.MAX_VALUE};
    private static final int[] NO_PLACE = {-1, 7, Integer.MIN_VALUE, Integer.MAX_VALUE, NamesInRow.NONE};

    public static void main(String[] args) {
        worth();
        worthRefused();
        worthOfDone();
        score();
        scoreRefused();
        ahead();
        rank();
        CHECK.end();
    }

    /** PAPER p has a ROW of p + 1: 0, 1, 2 and so on; PAPER 7 has none. */
    private static NamesInRow stairs() {
        NamesInRow x = new NamesInRow();
        for (int paper = 0; paper < 7; paper++) {
            for (int person = 0; person <= paper; person++) {
                x.name(paper, person);
            }
        }
        return x;
    }

    private static void worthDue(NamesInRow x, int paper, int way, int i, long upper, long lower) {
        CHECK.dueFraction("17: worth(" + paper + ", " + way + ", " + i + ")",
                x.worth(paper, way, i, true), x.worth(paper, way, i, false), upper, lower);
    }

    private static void worth() {
        NamesInRow x = stairs();
        for (int paper = 0; paper < 7; paper++) {
            for (int i = 0; i <= paper; i++) {
                worthDue(x, paper, 0, i, 1, 1);
                worthDue(x, paper, 1, i, 1, paper + 1);
            }
        }
        worthDue(x, 0, 2, 0, 1, 1);
        worthDue(x, 0, 3, 0, 1, 1);
        for (int paper = 1; paper < 7; paper++) {
            worthDue(x, paper, 2, 0, 1, 2);
            for (int i = 1; i <= paper; i++) {
                worthDue(x, paper, 2, i, 1, 2 * paper);
            }
        }
        worthDue(x, 1, 3, 0, 2, 3);
        worthDue(x, 1, 3, 1, 1, 3);
        worthDue(x, 2, 3, 0, 6, 11);
        worthDue(x, 2, 3, 2, 2, 11);
        worthDue(x, 3, 3, 0, 12, 25);
        worthDue(x, 3, 3, 2, 4, 25);
        worthDue(x, 4, 3, 0, 60, 137);
        worthDue(x, 4, 3, 4, 12, 137);
        worthDue(x, 5, 3, 0, 20, 49);
        worthDue(x, 5, 3, 3, 5, 49);
        worthDue(x, 5, 3, 5, 10, 147);
        worthDue(x, 6, 3, 0, 140, 363);
        worthDue(x, 6, 3, 3, 35, 363);
        worthDue(x, 6, 3, 5, 70, 1089);
        worthDue(x, 6, 3, 6, 20, 363);
    }

    private static void worthRefused() {
        NamesInRow x = stairs();
        for (int way = 0; way < 5; way++) {
            for (int place : NO_PLACE) {
                worthDue(x, 6, way, place, 0, 1);
                worthDue(x, 7, way, place, 0, 1);
            }
            worthDue(x, 7, way, 0, 0, 1);
            worthDue(x, 2, way, 3, 0, 1);
        }
        for (int paper : NO_PAPER) {
            worthDue(x, paper, 0, 0, -1, -1);
            worthDue(x, paper, 5, 0, -1, -1);
        }
        for (int way : NO_WAY) {
            worthDue(x, 0, way, 0, -2, -2);
            worthDue(x, 0, way, -1, -2, -2);
        }
    }

    private static void worthOfDone() {
        NamesInRow x = stairs();
        worthDue(x, 1, 4, 0, 0, 1);
        x.hours(1, 0, 0, 1);
        worthDue(x, 1, 4, 0, 1, 1);
        worthDue(x, 1, 4, 1, 0, 1);
        x.hours(1, 0, 1, 2);
        worthDue(x, 1, 4, 0, 333, 1000);
        worthDue(x, 1, 4, 1, 333, 500);
        x.swap(1, 0);
        worthDue(x, 1, 4, 0, 333, 500);
        x.hours(1, 0, 0, 2);
        worthDue(x, 1, 4, 0, 1, 2);
        // One hour of 55 in a task of weight 1, where 28 is all: 1/1540 is cut to nothing.
        for (int person = 1; person < 7; person++) {
            x.hours(6, 0, person, 9);
        }
        x.hours(6, 0, 0, 1);
        for (int task = 1; task < 4; task++) {
            x.task(6, task, 0, 9);
            x.hours(6, task, 1, 9);
        }
        worthDue(x, 6, 4, 0, 0, 1);
        worthDue(x, 6, 4, 1, 97, 100);
    }

    private static void scoreDue(NamesInRow x, int person, int way, long upper, long lower) {
        CHECK.dueFraction("18: score(" + person + ", " + way + ")",
                x.score(person, way, true), x.score(person, way, false), upper, lower);
    }

    private static void score() {
        NamesInRow x = stairs();
        scoreDue(x, 0, 0, 7, 1);
        scoreDue(x, 6, 0, 1, 1);
        scoreDue(x, 0, 1, 363, 140);
        scoreDue(x, 5, 1, 13, 42);
        scoreDue(x, 0, 2, 4, 1);
        scoreDue(x, 1, 2, 49, 40);
        scoreDue(x, 0, 3, 239046803, 60920475);
        scoreDue(x, 0, 4, 0, 1);
        for (int person = 1; person < 7; person++) {
            x.name(7, (person + 2) % 7);
        }
        scoreDue(x, 1, 0, 7, 1);
        scoreDue(x, 2, 0, 5, 1);
        x.unname(7);
        for (int person = 6; person > 0; person--) {
            x.name(7, person - 1);
        }
        // 0 is the sixth of six in the eighth.
        scoreDue(x, 0, 3, 34741579, 8702925);
        x.hours(0, 0, 0, 5);
        x.hours(1, 0, 0, 1);
        x.hours(1, 0, 1, 2);
        // HOURS in a PAPER in whose ROW it does not stand count for nothing.
        x.hours(0, 0, 6, 1);
        scoreDue(x, 0, 4, 583, 500);
        scoreDue(x, 1, 4, 333, 500);
        scoreDue(x, 6, 4, 0, 1);
        // Each is cut alone: 333 and 333 of two thirds.
        x.hours(2, 0, 0, 1);
        x.hours(2, 0, 1, 2);
        x.hours(0, 0, 0, 0);
        scoreDue(x, 0, 4, 333, 500);
    }

    private static void scoreRefused() {
        NamesInRow x = stairs();
        for (int person : NO_PERSON) {
            scoreDue(x, person, 0, -1, -1);
            scoreDue(x, person, 5, -1, -1);
        }
        for (int way : NO_WAY) {
            scoreDue(x, 0, way, -2, -2);
        }
        for (int way = 0; way < 5; way++) {
            scoreDue(new NamesInRow(), 6, way, 0, 1);
        }
    }

    private static void ahead() {
        NamesInRow x = stairs();
        CHECK.due("19: ahead(0, 1)", x.ahead(0, 1), 15);
        CHECK.due("19: ahead(1, 0)", x.ahead(1, 0), 0);
        CHECK.due("19: of itself", x.ahead(0, 0), 0);
        x.hours(1, 0, 1, 1);
        CHECK.due("19: done", x.ahead(1, 0), 16);
        NamesInRow y = new NamesInRow();
        y.name(0, 3);
        y.name(1, 4);
        y.name(1, 5);
        y.name(2, 4);
        y.name(2, 5);
        CHECK.due("19: two halves are one", y.ahead(4, 3), 1 + 8);
        CHECK.due("19: like ones are not ahead", y.ahead(3, 4), 0);
        CHECK.due("19: one and two halves, 2 thirds", y.ahead(3, 5), 8);
        CHECK.due("19: all", y.ahead(5, 3), 1);
        for (int person : NO_PERSON) {
            CHECK.due("19: no person", x.ahead(person, 0), -1);
            CHECK.due("19: no other", x.ahead(0, person), -1);
            CHECK.due("19: neither", x.ahead(person, person), -1);
        }
    }

    private static void rank() {
        NamesInRow x = new NamesInRow();
        for (int way = 0; way < 5; way++) {
            for (int i = 0; i < 7; i++) {
                CHECK.due("20: all alike", x.rank(way, i), i);
            }
        }
        x.name(0, 6);
        x.name(0, 3);
        x.name(1, 4);
        x.name(1, 3);
        x.name(1, 6);
        x.hours(1, 0, 4, 1);
        // ALL: 3 and 6 twice, 4 once. EVEN: 5/6, 5/6, 1/3. FIRST: 3 3/4, 6 3/4, 4 1/2.
        // FALLING: 6 2/3 + 2/11, 3 1/3 + 3/11, 4 6/11.
        int[][] due = {{3, 6, 4, 0, 1, 2, 5}, {3, 6, 4, 0, 1, 2, 5}, {3, 6, 4, 0, 1, 2, 5},
            {6, 3, 4, 0, 1, 2, 5}, {4, 0, 1, 2, 3, 5, 6}};
        for (int way = 0; way < 5; way++) {
            for (int i = 0; i < 7; i++) {
                CHECK.due("20: rank(" + way + ", " + i + ")", x.rank(way, i), due[way][i]);
            }
            for (int place : NO_PLACE) {
                CHECK.due("20: no place", x.rank(way, place), NamesInRow.NONE);
            }
        }
        for (int way : NO_WAY) {
            CHECK.due("20: no way", x.rank(way, 0), -2);
            CHECK.due("20: no way, no place", x.rank(way, 7), -2);
        }
    }
}
