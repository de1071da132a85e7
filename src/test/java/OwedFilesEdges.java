/** Edges of what is owed, of files, and of promises 32 to 36. */
final class OwedFilesEdges {
    private static final int NONE = NamesInRow.NONE, UNKNOWN = NamesInRow.UNKNOWN, OUTSIDE = NamesInRow.OUTSIDE;
    private static final int[] NO_TRADE = {-2, 3, NONE, Integer.MIN_VALUE, Integer.MAX_VALUE, 256};
    private static final int[] NO_SET = {-1, 128, NONE, Integer.MIN_VALUE, Integer.MAX_VALUE, 255, 256};
    private static final int[] NO_HUNDREDTH = {-1, 101, NONE, Integer.MIN_VALUE, Integer.MAX_VALUE, 256};
    private static final int SEVEN = 127;
    private final Sentences doc;

    OwedFilesEdges(Sentences doc) {
        this.doc = doc;
    }

    void run() {
        owedByATrade();
        theNextRow();
        costs();
        known();
        toKeep();
        owed();
        next();
        keep();
        cost();
        count();
        lastCall();
    }

    private void owedIs(String what, NamesInRow x, int trade, int... due) {
        for (int person = 0; person < 7; person++) {
            int owed = person < due.length ? due[person] : 0;
            doc.due(what + ", owed(" + person + ", " + trade + ")", x.owed(person, trade), owed + 1000);
        }
    }

    private void nextIs(String what, NamesInRow x, int set, int trade, int... row) {
        for (int i = 0; i < 7; i++) {
            doc.due(what + ", next(" + set + ", " + trade + ", " + i + ")", x.next(set, trade, i), i < row.length ? row[i] : NONE);
        }
    }

    /** All seven in every PAPER, just the other way about than by SHARE. */
    private static NamesInRow mostOwed() {
        NamesInRow x = new NamesInRow();
        for (int paper = 0; paper <= 7; paper++) {
            Build.hours(Build.row(x, paper, 0, 1, 2, 3, 4, 5, 6), paper, 0, 0, 1, 2, 3, 4, 5, 6);
        }
        return x;
    }

    private void owedByATrade() {
        doc.term("OWED is a PERSON by a TRADE (-1: by all): of all its PAPERS in whose ROW it stands: "
                + "its place in the ROW less its place there BY SHARE, together (below 0: it owes).");
        NamesInRow x = new NamesInRow();
        for (int trade = -1; trade <= 2; trade++) {
            owedIs("empty rows", x, trade);
        }
        Build.row(x, 7, 6);
        owedIs("one alone", x, -1);
        Build.row(x, 7, 6, 0);
        owedIs("like ones by number", x, -1, 1, 0, 0, 0, 0, 0, -1);
        x.hours(7, 0, 6, 1);
        owedIs("as by share", x, -1);
        x.swap(7, 0);
        owedIs("not as by share", x, -1, -1, 0, 0, 0, 0, 0, 1);
        x.trade(7, 2);
        owedIs("by its trade", x, 2, -1, 0, 0, 0, 0, 0, 1);
        owedIs("by all", x, -1, -1, 0, 0, 0, 0, 0, 1);
        owedIs("by another trade", x, 1);
        owedIs("by another trade", x, 0);
        x.hours(7, 0, 3, 9);
        owedIs("who does not stand there is owed nothing", x, -1, -1, 0, 0, 0, 0, 0, 1);
        x.room(2, 6);
        owedIs("whoever has the room", x, -1, -1, 0, 0, 0, 0, 0, 1);
        owedIs("the most that can be", mostOwed(), -1, -48, -32, -16, 0, 16, 32, 48);
        owedIs("the most that can be", mostOwed(), 0, -48, -32, -16, 0, 16, 32, 48);
        owedIs("the most that can be, of another trade", mostOwed(), 2);
    }

    private void theNextRow() {
        doc.term("THE NEXT ROW of a set: those who are OWED most first; of like ones the lesser number.");
        NamesInRow x = new NamesInRow();
        nextIs("nothing is owed", x, SEVEN, -1, 0, 1, 2, 3, 4, 5, 6);
        nextIs("nobody", x, 0, -1);
        nextIs("the last alone", x, 64, -1, 6);
        nextIs("the first and the last", x, 65, -1, 0, 6);
        nextIs("the most that can be", mostOwed(), SEVEN, -1, 6, 5, 4, 3, 2, 1, 0);
        nextIs("the most that can be, of four", mostOwed(), 85, 0, 6, 4, 2, 0);
        nextIs("the most that can be, of another trade", mostOwed(), SEVEN, 1, 0, 1, 2, 3, 4, 5, 6);
        // 5 is owed a place, 2 owes one.
        Build.row(x, 0, 2, 5);
        x.hours(0, 0, 5, 1);
        nextIs("one is owed and one owes", x, SEVEN, -1, 5, 0, 1, 3, 4, 6, 2);
        nextIs("without him who is owed", x, SEVEN - 32, 0, 0, 1, 3, 4, 6, 2);
    }

    private void costs() {
        doc.term("FILES: each TASK of a PAPER has a COST (0 to 50; 1 at first) to keep its HOURS.");
        NamesInRow x = new NamesInRow();
        for (int paper = 0; paper <= 7; paper++) {
            for (int task = 0; task <= 3; task++) {
                doc.due("at first", x.task(paper, task, 1, 50), 1);
                doc.due("51", x.task(paper, task, 1, 51), OUTSIDE);
                doc.due("-1", x.task(paper, task, 1, -1), OUTSIDE);
                doc.due("after 50", x.task(paper, task, 1, 0), 50);
                doc.due("after 0", x.task(paper, task, 1, task + paper), 0);
            }
        }
        for (int paper = 0; paper <= 7; paper++) {
            for (int task = 0; task <= 3; task++) {
                doc.due("of each", x.task(paper, task, 1, 0), task + paper);
            }
        }
    }

    /** All TASKS of PAPER 7 have HOURS. */
    private static NamesInRow files(int[] weights, int... costs) {
        NamesInRow x = Build.costs(Build.weights(new NamesInRow(), 7, weights), 7, costs);
        for (int task = 0; task <= 3; task++) {
            x.hours(7, task, task, 1);
        }
        return x;
    }

    private void keepIs(String what, NamesInRow x, int w, int tasks, int cost) {
        doc.due(what + ", keep(7, " + w + ")", x.keep(7, w), tasks);
        doc.due(what + ", cost(7, " + w + ")", x.cost(7, w), cost);
    }

    private void known() {
        doc.term("KNOWN within w (0 to 100) in the hundred is a PAPER by TASKS that are kept, if WEIGHTS of TASKS that are DONE and not kept "
                + "are no more than w in the hundred of those of all that are DONE.");
        keepIs("nothing is done", new NamesInRow(), 0, 0, 0);
        keepIs("nothing is done", new NamesInRow(), 100, 0, 0);
        NamesInRow x = files(new int[] {1, 0, 0, 0}, 50, 50, 50, 50);
        keepIs("one is done", x, 0, 1, 50);
        keepIs("one is done", x, 99, 1, 50);
        keepIs("one is done", x, 100, 0, 0);
        NamesInRow y = files(new int[] {1, 9, 9, 1}, 9, 9, 9, 9);
        keepIs("1 of 20 is just 5 in the hundred", y, 4, 15, 36);
        keepIs("1 of 20 is just 5 in the hundred", y, 5, 7, 27);
        keepIs("2 of 20 are just 10 in the hundred", y, 9, 7, 27);
        keepIs("2 of 20 are just 10 in the hundred", y, 10, 6, 18);
        keepIs("11 of 20 are just 55 in the hundred", y, 54, 3, 18);
        keepIs("11 of 20 are just 55 in the hundred", y, 55, 2, 9);
        keepIs("19 of 20 are just 95 in the hundred", y, 94, 2, 9);
        keepIs("19 of 20 are just 95 in the hundred", y, 95, 1, 9);
        keepIs("99 are not all", y, 99, 1, 9);
        keepIs("all", y, 100, 0, 0);
        NamesInRow z = files(new int[] {1, 9, 9, 9}, 1, 1, 1, 1);
        keepIs("1 of 28 is 3.57 in the hundred", z, 3, 15, 4);
        keepIs("1 of 28 is 3.57 in the hundred", z, 4, 14, 3);
        z.hours(7, 3, 3, 0);
        keepIs("what is not done does not count: 1 of 19", z, 5, 7, 3);
        keepIs("what is not done does not count: 1 of 19", z, 6, 6, 2);
    }

    private void toKeep() {
        doc.term("TO KEEP: TASKS by which it is KNOWN within w at the least COST; of like ones the fewest, then the least number as bits.");
        int[] even = {1, 1, 1, 1};
        keepIs("the least cost", files(even, 4, 3, 2, 1), 75, 8, 1);
        keepIs("the least cost", files(even, 4, 3, 2, 1), 50, 12, 3);
        keepIs("the least cost, though they are more", files(new int[] {2, 1, 1, 0}, 3, 1, 1, 0), 50, 6, 2);
        keepIs("of like ones the fewest", files(new int[] {2, 1, 1, 0}, 2, 1, 1, 0), 50, 1, 2);
        keepIs("of like ones the fewest, though the number is greater", files(new int[] {1, 1, 2, 0}, 1, 1, 2, 0), 50, 4, 2);
        keepIs("then the least number", files(even, 7, 7, 7, 7), 75, 1, 7);
        keepIs("then the least number", files(even, 7, 7, 7, 7), 50, 3, 14);
        keepIs("then the least number", files(even, 7, 7, 7, 7), 25, 7, 21);
        keepIs("then the least number of two", files(even, 7, 1, 7, 1), 50, 10, 2);
        keepIs("what costs nothing is not kept for nothing", files(even, 0, 0, 0, 0), 100, 0, 0);
        keepIs("what costs nothing is not kept for nothing", files(even, 0, 0, 0, 0), 75, 1, 0);
        keepIs("what costs nothing is kept where it must be", files(even, 0, 0, 0, 0), 0, 15, 0);
        keepIs("what costs most", files(even, 50, 50, 50, 50), 0, 15, 200);
        keepIs("what is not done is not kept", files(new int[] {0, 9, 0, 9}, 0, 5, 0, 5), 0, 10, 10);
    }

    private void owed() {
        doc.promise(32, "OWED and 1000.");
        NamesInRow x = mostOwed();
        doc.due("the least", x.owed(0, -1), 952);
        doc.due("the greatest", x.owed(6, -1), 1048);
        doc.due("nothing", x.owed(3, -1), 1000);
        doc.due("nothing by trade 2", x.owed(6, 2), 1000);
        doc.promise(32, "UNKNOWN: person; OUTSIDE: trade (-1 to 2).");
        for (int trade = -1; trade <= 2; trade++) {
            doc.isTrue("trade " + trade + " is taken", x.owed(0, trade) > 0);
        }
        for (int person : Build.NO_PERSON) {
            doc.due("no person", x.owed(person, -1), UNKNOWN);
            doc.due("no person, no trade", x.owed(person, -2), UNKNOWN);
            doc.due("no person, no trade", x.owed(person, 3), UNKNOWN);
        }
        for (int trade : NO_TRADE) {
            doc.due("no trade", x.owed(0, trade), OUTSIDE);
        }
    }

    private void next() {
        doc.promise(33, "The i-th of THE NEXT ROW of a set; NONE.");
        NamesInRow x = mostOwed();
        doc.due("the first", x.next(SEVEN, -1, 0), 6);
        doc.due("the last", x.next(SEVEN, -1, 6), 0);
        doc.due("behind the only one", x.next(8, -1, 1), NONE);
        doc.due("of nobody", x.next(0, -1, 0), NONE);
        for (int place : Build.NEVER_A_PLACE) {
            doc.due("no place of seven", x.next(SEVEN, -1, place), NONE);
            doc.due("no place of none", x.next(0, 2, place), NONE);
        }
        doc.promise(33, "OUTSIDE: set, trade.");
        for (int set : NO_SET) {
            doc.due("no set", x.next(set, -1, 0), OUTSIDE);
            doc.due("no set, no place", x.next(set, -1, -1), OUTSIDE);
            doc.due("no set, no trade", x.next(set, 3, 0), OUTSIDE);
        }
        for (int trade : NO_TRADE) {
            doc.due("no trade", x.next(SEVEN, trade, 0), OUTSIDE);
            doc.due("no trade, no place", x.next(SEVEN, trade, 7), OUTSIDE);
            doc.due("no trade, nobody", x.next(0, trade, 0), OUTSIDE);
        }
    }

    private void keep() {
        doc.promise(34, "TO KEEP, as bits.");
        NamesInRow x = files(new int[] {1, 2, 3, 4}, 1, 1, 1, 1);
        int[] due = {15, 14, 13, 12, 10, 6, 8, 4, 2, 1, 0};
        for (int i = 0; i <= 10; i++) {
            doc.due("keep(7, " + i * 10 + ")", x.keep(7, i * 10), due[i]);
        }
        doc.due("of a paper where nothing is done", x.keep(0, 0), 0);
        doc.promise(34, "UNKNOWN: paper; OUTSIDE: w.");
        for (int paper : Build.NO_PAPER) {
            doc.due("no paper", x.keep(paper, 0), UNKNOWN);
            doc.due("no paper, no hundredth", x.keep(paper, 101), UNKNOWN);
        }
        for (int w : NO_HUNDREDTH) {
            doc.due("no hundredth", x.keep(7, w), OUTSIDE);
            doc.due("no hundredth, nothing is done", x.keep(0, w), OUTSIDE);
        }
    }

    private void cost() {
        doc.promise(35, "What it costs TO KEEP them.");
        NamesInRow x = files(new int[] {9, 9, 9, 9}, 50, 50, 50, 50);
        doc.due("the most", x.cost(7, 0), 200);
        doc.due("three", x.cost(7, 25), 150);
        doc.due("none", x.cost(7, 100), 0);
        doc.due("where nothing is done", x.cost(0, 0), 0);
        Build.costs(x, 7, 0, 0, 0, 1);
        doc.due("those that cost nothing and one", x.cost(7, 0), 1);
        doc.due("those that cost nothing", x.cost(7, 25), 0);
        doc.promise(35, "UNKNOWN; OUTSIDE.");
        for (int paper : Build.NO_PAPER) {
            doc.due("no paper", x.cost(paper, 0), UNKNOWN);
            doc.due("no paper, no hundredth", x.cost(paper, 101), UNKNOWN);
        }
        for (int w : NO_HUNDREDTH) {
            doc.due("no hundredth", x.cost(7, w), OUTSIDE);
            doc.due("no hundredth, nothing is done", x.cost(0, w), OUTSIDE);
        }
    }

    private void count() {
        doc.promise(36, "0 PAPERS with a ROW, 1 names in all ROWS, 2 TASKS that are DONE in all PAPERS, 3 PAPERS whose CLAIMS are OVER.");
        NamesInRow x = new NamesInRow();
        for (int paper = 0; paper <= 7; paper++) {
            countsAre("with papers below " + paper, x, paper, 7 * paper, 4 * paper, paper);
            Build.row(x, paper, 0, 1, 2, 3, 4, 5, 6);
            Build.weights(x, paper, 1, 1, 1, 1);
            for (int task = 0; task <= 3; task++) {
                x.hours(paper, task, 6, 1);
            }
            Build.claims(x, paper, 100, 1);
        }
        countsAre("all there can be", x, 8, 56, 32, 8);
        x.claim(7, 1, 0);
        x.unname(0);
        x.name(0, 6);
        x.hours(3, 0, 6, 0);
        countsAre("100 is not over, one name is a row, one task is not done", x, 8, 50, 31, 7);
        x.unname(0);
        countsAre("an empty row is none", x, 7, 49, 31, 7);
        doc.promise(36, "OUTSIDE.");
        for (int what : new int[] {-1, 4, NONE, Integer.MIN_VALUE, Integer.MAX_VALUE, 256}) {
            doc.due("count(" + what + ")", x.count(what), OUTSIDE);
        }
    }

    private void countsAre(String what, NamesInRow x, int... due) {
        for (int i = 0; i < 4; i++) {
            doc.due(what + ", count(" + i + ")", x.count(i), due[i]);
        }
    }

    private void lastCall() {
        doc.beginning("An object is used for at most 512 calls after it has been made;");
        NamesInRow x = new NamesInRow();
        for (int i = 0; i < 511; i++) {
            x.trade(i % 8, i % 3);
        }
        doc.due("the 512th call", x.trade(7, 0), 503 % 3);
        NamesInRow y = new NamesInRow();
        for (int i = 0; i < 73; i++) {
            for (int person = 0; person < 7; person++) {
                doc.due("name after " + i * 7 + " calls and more", y.name(i % 8, person), i < 8 ? person + 1 : NamesInRow.STATE);
            }
        }
        doc.due("the 512th call", y.unname(7), 7);
    }
}
