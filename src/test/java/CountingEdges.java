/** Edges of the ways of counting, and of promises 17 to 20. */
final class CountingEdges {
    private static final int NONE = NamesInRow.NONE, UNKNOWN = NamesInRow.UNKNOWN, OUTSIDE = NamesInRow.OUTSIDE;
    private static final int ALL = 0, EVEN = 1, FIRST = 2, FALLING = 3, DONE = 4;
    private static final int[] NO_WAY = {-1, 5, NONE, Integer.MIN_VALUE, Integer.MAX_VALUE, 256};
    private final Sentences doc;

    CountingEdges(Sentences doc) {
        this.doc = doc;
    }

    void run() {
        all();
        even();
        first();
        falling();
        done();
        scoreOfAll();
        worth();
        score();
        ahead();
        rank();
    }

    /** PAPER p has a ROW of p: p - 1, p - 2 and so on down to 0. */
    private static NamesInRow stairs() {
        NamesInRow x = new NamesInRow();
        for (int paper = 1; paper <= 7; paper++) {
            for (int person = paper - 1; person >= 0; person--) {
                x.name(paper, person);
            }
        }
        return x;
    }

    private void worthIs(NamesInRow x, int paper, int way, int i, long upper, long lower) {
        doc.fraction("worth(" + paper + ", " + way + ", " + i + ")",
                x.worth(paper, way, i, true), x.worth(paper, way, i, false), upper, lower);
    }

    private void scoreIs(String what, NamesInRow x, int person, int way, long upper, long lower) {
        doc.fraction(what + ", score(" + person + ", " + way + ")",
                x.score(person, way, true), x.score(person, way, false), upper, lower);
    }

    private void all() {
        doc.term("WAYS of counting what a place in a ROW of n is worth: 0 ALL: 1;");
        NamesInRow x = stairs();
        for (int n = 1; n <= 7; n++) {
            worthIs(x, n, ALL, 0, 1, 1);
            worthIs(x, n, ALL, n - 1, 1, 1);
            worthIs(x, n, ALL, n, 0, 1);
        }
    }

    private void even() {
        doc.term("1 EVEN: 1 by n;");
        NamesInRow x = stairs();
        for (int n = 1; n <= 7; n++) {
            worthIs(x, n, EVEN, 0, 1, n);
            worthIs(x, n, EVEN, n - 1, 1, n);
            worthIs(x, n, EVEN, n, 0, 1);
        }
    }

    private void first() {
        doc.term("2 FIRST: half of it the first, the rest even to the others (of one alone 1);");
        NamesInRow x = stairs();
        worthIs(x, 1, FIRST, 0, 1, 1);
        for (int n = 2; n <= 7; n++) {
            worthIs(x, n, FIRST, 0, 1, 2);
            worthIs(x, n, FIRST, 1, 1, 2 * (n - 1));
            worthIs(x, n, FIRST, n - 1, 1, 2 * (n - 1));
            worthIs(x, n, FIRST, n, 0, 1);
        }
    }

    private void falling() {
        doc.term("3 FALLING: 1 by the place, by the sum of 1 by each place;");
        NamesInRow x = stairs();
        long[][] uppers = {{1}, {2, 1}, {6, 3, 2}, {12, 6, 4, 3}, {60, 30, 20, 15, 12}, {20, 10, 20, 5, 4, 10},
            {140, 70, 140, 35, 28, 70, 20}};
        long[][] lowers = {{1}, {3, 3}, {11, 11, 11}, {25, 25, 25, 25}, {137, 137, 137, 137, 137}, {49, 49, 147, 49, 49, 147},
            {363, 363, 1089, 363, 363, 1089, 363}};
        for (int n = 1; n <= 7; n++) {
            for (int i = 0; i < n; i++) {
                worthIs(x, n, FALLING, i, uppers[n - 1][i], lowers[n - 1][i]);
            }
            worthIs(x, n, FALLING, n, 0, 1);
        }
    }

    /** PERSON 0 has one hour of so many in a TASK of WEIGHT 1 of 25, PERSON 6 all the rest. */
    private static NamesInRow oneHourOf(int all) {
        NamesInRow x = Build.weights(new NamesInRow(), 7, 1, 8, 8, 8);
        for (int task = 1; task <= 3; task++) {
            x.hours(7, task, 6, 1);
        }
        Build.hours(x, 7, 0, 1, 9, 9, 9, 9, 0, all - 37);
        return Build.row(x, 7, 0, 6);
    }

    private void done() {
        doc.term("4 DONE: THE SHARE in thousandths, cut.");
        NamesInRow x = Build.row(new NamesInRow(), 0, 5);
        worthIs(x, 0, DONE, 0, 0, 1);
        x.hours(0, 0, 5, 1);
        worthIs(x, 0, DONE, 0, 1, 1);
        worthIs(oneHourOf(40), 7, DONE, 0, 1, 1000);
        worthIs(oneHourOf(41), 7, DONE, 0, 0, 1);
        worthIs(oneHourOf(39), 7, DONE, 0, 1, 1000);
        // Two thirds are 666 thousandths, in least terms; seven ninths are 777.
        NamesInRow y = Build.row(Build.hours(new NamesInRow(), 0, 0, 2, 4), 0, 1, 0);
        worthIs(y, 0, DONE, 0, 333, 500);
        worthIs(y, 0, DONE, 1, 333, 1000);
        Build.hours(y, 0, 0, 2, 7);
        worthIs(y, 0, DONE, 0, 777, 1000);
        worthIs(y, 0, DONE, 1, 111, 500);
        Build.hours(y, 0, 0, 1, 1);
        worthIs(y, 0, DONE, 0, 1, 2);
        // The greatest below 1: 279/280 are 996 thousandths.
        NamesInRow z = Build.weights(new NamesInRow(), 7, 1, 9, 9, 9);
        Build.hours(z, 7, 0, 1, 0, 0, 0, 0, 0, 9);
        for (int task = 1; task <= 3; task++) {
            z.hours(7, task, 6, 9);
        }
        Build.row(z, 7, 0, 6);
        worthIs(z, 7, DONE, 1, 249, 250);
        worthIs(z, 7, DONE, 0, 3, 1000);
    }

    private void scoreOfAll() {
        doc.term("THE SCORE of a PERSON by a WAY: of all PAPERS in whose ROW it stands together.");
        NamesInRow x = new NamesInRow();
        for (int way = 0; way < 5; way++) {
            scoreIs("no row", x, 6, way, 0, 1);
        }
        for (int paper = 0; paper <= 7; paper++) {
            Build.row(x, paper, 3, 6);
            x.hours(paper, 0, 6, 1);
            x.hours(paper, 0, 3, 2);
            x.hours(paper, 0, 0, 6);
        }
        scoreIs("eight rows", x, 6, ALL, 8, 1);
        scoreIs("eight rows", x, 6, EVEN, 4, 1);
        scoreIs("eight rows", x, 6, FIRST, 4, 1);
        scoreIs("eight rows", x, 6, FALLING, 8, 3);
        scoreIs("eight times 111 thousandths", x, 6, DONE, 111, 125);
        scoreIs("eight times 222 thousandths", x, 3, DONE, 222, 125);
        scoreIs("who stands in none", x, 0, ALL, 0, 1);
        scoreIs("who stands in none and did the most", x, 0, DONE, 0, 1);
    }

    private void worth() {
        doc.promise(17, "What the i-th place of a ROW is worth by a WAY (0 of those that are not there).");
        NamesInRow x = Build.hours(stairs(), 7, 0, 1, 1, 1, 1, 1, 1, 1);
        x.hours(0, 0, 0, 1);
        for (int way = 0; way < 5; way++) {
            worthIs(x, 0, way, 0, 0, 1);
            worthIs(x, 1, way, 1, 0, 1);
            for (int place : Build.NEVER_A_PLACE) {
                worthIs(x, 7, way, place, 0, 1);
                worthIs(x, 0, way, place, 0, 1);
            }
        }
        worthIs(x, 7, ALL, 6, 1, 1);
        worthIs(x, 7, EVEN, 6, 1, 7);
        worthIs(x, 7, FIRST, 6, 1, 12);
        worthIs(x, 7, FALLING, 6, 20, 363);
        worthIs(x, 7, DONE, 6, 71, 500);
        doc.promise(17, "UNKNOWN: paper; OUTSIDE: way.");
        for (int paper : Build.NO_PAPER) {
            worthIs(x, paper, 0, 0, UNKNOWN, UNKNOWN);
            worthIs(x, paper, 0, -1, UNKNOWN, UNKNOWN);
            worthIs(x, paper, 5, 0, UNKNOWN, UNKNOWN);
            worthIs(x, paper, 5, 7, UNKNOWN, UNKNOWN);
        }
        for (int way : NO_WAY) {
            worthIs(x, 7, way, 0, OUTSIDE, OUTSIDE);
            worthIs(x, 7, way, 7, OUTSIDE, OUTSIDE);
            worthIs(x, 0, way, 0, OUTSIDE, OUTSIDE);
        }
    }

    private void score() {
        doc.promise(18, "THE SCORE.");
        NamesInRow x = stairs();
        scoreIs("seven rows", x, 0, ALL, 7, 1);
        scoreIs("the row of seven", x, 6, ALL, 1, 1);
        scoreIs("the row of seven", x, 6, FALLING, 140, 363);
        // 1 + 1/2 + .. + 1/7.
        scoreIs("seven rows", x, 0, EVEN, 363, 140);
        // 1 + 1/2 + 1/4 + 1/6 + 1/8 + 1/10 + 1/12.
        scoreIs("seven rows", x, 0, FIRST, 89, 40);
        // The last of 1 to 7: 1 + 1/3 + 2/11 + 3/25 + 12/137 + 10/147 + 20/363.
        scoreIs("seven rows", x, 0, FALLING, 112451057, 60920475);
        x.unname(7);
        scoreIs("no row any more", x, 6, FALLING, 0, 1);
        doc.promise(18, "UNKNOWN; OUTSIDE.");
        for (int person : Build.NO_PERSON) {
            scoreIs("no person", x, person, 0, UNKNOWN, UNKNOWN);
            scoreIs("no person, no way", x, person, 5, UNKNOWN, UNKNOWN);
        }
        for (int way : NO_WAY) {
            scoreIs("no way", x, 0, way, OUTSIDE, OUTSIDE);
            scoreIs("no way, no row", x, 6, way, OUTSIDE, OUTSIDE);
        }
    }

    private void ahead() {
        doc.promise(19, "WAYS by which the first has a greater SCORE than the second, as bits.");
        NamesInRow x = new NamesInRow();
        doc.due("nobody has any", x.ahead(0, 6), 0);
        Build.row(x, 7, 6);
        x.hours(7, 0, 6, 1);
        doc.due("all ways", x.ahead(6, 0), 31);
        doc.due("none", x.ahead(0, 6), 0);
        doc.due("not of oneself", x.ahead(6, 6), 0);
        Build.row(x, 0, 0);
        doc.due("like ones in all but what is done", x.ahead(6, 0), 16);
        doc.due("like ones", x.ahead(0, 6), 0);
        x.hours(0, 0, 0, 9);
        doc.due("like ones in all", x.ahead(6, 0), 0);
        x.hours(0, 0, 1, 1);
        doc.due("9 of 10 are less", x.ahead(6, 0), 16);
        NamesInRow y = Build.row(Build.row(new NamesInRow(), 0, 4, 5), 1, 5, 4);
        Build.row(y, 2, 6);
        doc.due("two in halves are one", y.ahead(6, 4), 0);
        doc.due("two rows are more than one", y.ahead(4, 6), 1);
        doc.due("each first once", y.ahead(4, 5), 0);
        NamesInRow z = Build.row(new NamesInRow(), 3, 1, 2);
        doc.due("the first of two", z.ahead(1, 2), 8);
        doc.due("the second of two", z.ahead(2, 1), 0);
        Build.row(z, 3, 1, 2, 3);
        doc.due("the first of three", z.ahead(1, 2), 12);
        doc.due("the second of three", z.ahead(2, 3), 8);
        doc.promise(19, "UNKNOWN.");
        for (int person : Build.NO_PERSON) {
            doc.due("no first", x.ahead(person, 0), UNKNOWN);
            doc.due("no second", x.ahead(0, person), UNKNOWN);
            doc.due("neither", x.ahead(person, person), UNKNOWN);
        }
    }

    private void rank() {
        doc.promise(20, "The i-th by SCORE, the greatest first; of like ones the lesser number; NONE.");
        NamesInRow x = new NamesInRow();
        for (int way = 0; way < 5; way++) {
            for (int i = 0; i < 7; i++) {
                doc.due("all have 0, rank(" + way + ", " + i + ")", x.rank(way, i), i);
            }
            for (int place : Build.NEVER_A_PLACE) {
                doc.due("no place", x.rank(way, place), NONE);
            }
        }
        NamesInRow y = Build.hours(Build.row(new NamesInRow(), 7, 6, 5, 4, 3, 2, 1, 0), 7, 0, 1, 2, 3, 4, 5, 6, 7);
        int[][] due = {{0, 1, 2, 3, 4, 5, 6}, {0, 1, 2, 3, 4, 5, 6}, {6, 0, 1, 2, 3, 4, 5}, {6, 5, 4, 3, 2, 1, 0}, {6, 5, 4, 3, 2, 1, 0}};
        for (int way = 0; way < 5; way++) {
            for (int i = 0; i < 7; i++) {
                doc.due("a row of seven, rank(" + way + ", " + i + ")", y.rank(way, i), due[way][i]);
            }
        }
        doc.promise(20, "OUTSIDE: way.");
        for (int way : NO_WAY) {
            doc.due("no way", x.rank(way, 0), OUTSIDE);
            doc.due("no way, no place", x.rank(way, 7), OUTSIDE);
            doc.due("no way, no place", x.rank(way, -1), OUTSIDE);
        }
    }
}
