/** Edges of what people mind and bear, and of promises 26 to 31. */
final class QuarrelEdges {
    private static final int NONE = NamesInRow.NONE, UNKNOWN = NamesInRow.UNKNOWN;
    private static final int OUTSIDE = NamesInRow.OUTSIDE, STATE = NamesInRow.STATE;
    private static final int[] NO_SET = {-1, 128, NONE, Integer.MIN_VALUE, Integer.MAX_VALUE, 255, 256};
    private static final int SEVEN = 127;
    private final Sentences doc;

    QuarrelEdges(Sentences doc) {
        this.doc = doc;
    }

    void run() {
        mindsAnother();
        order();
        bears();
        thePeace();
        mind();
        bear();
        quarrel();
        peace();
        peaceAt();
        settle();
    }

    private void orderIs(String what, NamesInRow x, int set, int... order) {
        for (int i = 0; i < 7; i++) {
            doc.due(what + ", place " + i, x.peaceAt(set, i), i < order.length ? order[i] : NONE);
        }
    }

    private void mindsAnother() {
        doc.term("QUARREL: what a PERSON minds to stand behind another one (0 to 9; 0 at first).");
        NamesInRow x = new NamesInRow();
        for (int person = 0; person <= 6; person++) {
            for (int other = 0; other <= 6; other++) {
                if (person != other) {
                    doc.due("at first", x.mind(person, other, 9), 0);
                    doc.due("10", x.mind(person, other, 10), OUTSIDE);
                    doc.due("-1", x.mind(person, other, -1), OUTSIDE);
                    doc.due("after 9", x.mind(person, other, (person * 2 + other) % 10), 9);
                }
            }
        }
        for (int person = 0; person <= 6; person++) {
            for (int other = 0; other <= 6; other++) {
                if (person != other) {
                    doc.due("of each", x.mind(person, other, 0), (person * 2 + other) % 10);
                }
            }
        }
    }

    private void order() {
        doc.term("An ORDER of a set of PEOPLE: each minds all in it that stand ahead of it.");
        NamesInRow x = new NamesInRow();
        doc.due("an empty row", x.quarrel(7, true), 0);
        for (int person = 0; person <= 6; person++) {
            for (int other = 0; other < person; other++) {
                x.mind(person, other, 1);
            }
        }
        Build.row(x, 7, 3);
        doc.due("one alone", x.quarrel(7, true), 0);
        Build.row(x, 7, 0, 1, 2, 3, 4, 5, 6);
        doc.due("all seven mind all ahead", x.quarrel(7, true), 21);
        Build.row(x, 7, 6, 5, 4, 3, 2, 1, 0);
        doc.due("all seven mind those behind", x.quarrel(7, true), 0);
        Build.row(x, 7, 1, 2);
        doc.due("who is not in it is not minded", x.quarrel(7, true), 1);
    }

    private void bears() {
        doc.term("A PERSON BEARS so much in all (0 to 60; 60 at first).");
        NamesInRow x = new NamesInRow();
        for (int person = 0; person <= 6; person++) {
            doc.due("at first", x.bear(person, 0), 60);
            doc.due("61", x.bear(person, 61), OUTSIDE);
            doc.due("-1", x.bear(person, -1), OUTSIDE);
            doc.due("after 0", x.bear(person, 60), 0);
            doc.due("after 60", x.bear(person, 60), 60);
        }
        // 54 is the most that one can mind.
        NamesInRow y = Build.row(Build.allMind(new NamesInRow(), 9), 7, 0, 1, 2, 3, 4, 5, 6);
        doc.due("all bear the most at first", y.quarrel(7, false), 0);
        y.bear(6, 54);
        doc.due("54 of 54", y.quarrel(7, false), 0);
        y.bear(6, 53);
        doc.due("54 of 53", y.quarrel(7, false), 1);
        y.bear(0, 0);
        doc.due("0 of 0", y.quarrel(7, false), 1);
        y.bear(1, 8);
        doc.due("9 of 8", y.quarrel(7, false), 2);
    }

    private void thePeace() {
        doc.term("THE PEACE of a set: of all ORDERS in which each BEARS what it minds that in which all mind least together; "
                + "of like ones the first by numbers.");
        NamesInRow x = new NamesInRow();
        doc.due("the empty set", x.peace(0), 0);
        orderIs("the empty set", x, 0);
        doc.due("all seven, nobody minds", x.peace(SEVEN), 0);
        orderIs("all seven, nobody minds", x, SEVEN, 0, 1, 2, 3, 4, 5, 6);
        Build.allMind(x, 9);
        doc.due("all seven mind the most", x.peace(SEVEN), 189);
        orderIs("all seven mind the most", x, SEVEN, 0, 1, 2, 3, 4, 5, 6);
        // Each bears only a place of its own: 6 the first, 5 the second and so on.
        for (int person = 0; person <= 6; person++) {
            x.bear(person, 9 * (6 - person));
        }
        doc.due("one order alone", x.peace(SEVEN), 189);
        orderIs("one order alone", x, SEVEN, 6, 5, 4, 3, 2, 1, 0);
        x.bear(0, 53);
        doc.due("no order", x.peace(SEVEN), NONE);
        orderIs("no order", x, SEVEN);
        doc.due("without 0", x.peace(SEVEN - 1), 135);
        orderIs("without 0", x, SEVEN - 1, 6, 5, 4, 3, 2, 1);
        // What all BEAR goes ahead of what is least.
        NamesInRow y = new NamesInRow();
        y.mind(0, 1, 1);
        y.mind(1, 0, 9);
        orderIs("the least", y, 3, 1, 0);
        y.bear(0, 1);
        orderIs("the least, just borne", y, 3, 1, 0);
        y.bear(0, 0);
        orderIs("the least is not borne", y, 3, 0, 1);
        doc.due("the least is not borne", y.peace(3), 9);
        y.bear(1, 9);
        doc.due("just borne", y.peace(3), 9);
        y.bear(1, 8);
        doc.due("neither is borne", y.peace(3), NONE);
        doc.due("a set with them in it", y.peace(SEVEN), NONE);
        doc.due("a set with one of them", y.peace(SEVEN - 2), 0);
    }

    private void mind() {
        doc.promise(26, "What a PERSON minds to stand behind another one: what it was.");
        NamesInRow x = new NamesInRow();
        doc.due("first and last", x.mind(0, 6, 9), 0);
        doc.due("last and first", x.mind(6, 0, 1), 0);
        doc.due("first and last again", x.mind(0, 6, 0), 9);
        doc.due("last and first again", x.mind(6, 0, 7), 1);
        doc.promise(26, "UNKNOWN; OUTSIDE: v; STATE: both are one.");
        for (int person : Build.NO_PERSON) {
            doc.due("no person", x.mind(person, 0, 0), UNKNOWN);
            doc.due("no other", x.mind(6, person, 0), UNKNOWN);
            doc.due("no person, too much", x.mind(person, 0, 10), UNKNOWN);
            doc.due("no other, too much", x.mind(6, person, 10), UNKNOWN);
            doc.due("both are nobody", x.mind(person, person, 0), UNKNOWN);
            doc.due("both are nobody, too much", x.mind(person, person, 10), UNKNOWN);
        }
        for (int v : new int[] {-1, 10, NONE, Integer.MIN_VALUE, Integer.MAX_VALUE, 256}) {
            doc.due("not as told", x.mind(6, 0, v), OUTSIDE);
            doc.due("not as told, both are one", x.mind(6, 6, v), OUTSIDE);
        }
        for (int person = 0; person <= 6; person++) {
            doc.due("both are one", x.mind(person, person, 0), STATE);
            doc.due("both are one", x.mind(person, person, 9), STATE);
        }
        doc.due("unchanged", x.mind(6, 0, 0), 7);
        doc.due("one does not mind oneself", x.peace(SEVEN), 0);
    }

    private void bear() {
        doc.promise(27, "What a PERSON BEARS: what it was.");
        NamesInRow x = new NamesInRow();
        doc.due("the first", x.bear(0, 0), 60);
        doc.due("the last", x.bear(6, 59), 60);
        doc.due("the first again", x.bear(0, 60), 0);
        doc.due("the last again", x.bear(6, 1), 59);
        doc.promise(27, "UNKNOWN; OUTSIDE.");
        for (int person : Build.NO_PERSON) {
            doc.due("no person", x.bear(person, 0), UNKNOWN);
            doc.due("no person, too much", x.bear(person, 61), UNKNOWN);
            doc.due("no person, too little", x.bear(person, -1), UNKNOWN);
        }
        for (int v : new int[] {-1, 61, NONE, Integer.MIN_VALUE, Integer.MAX_VALUE, 256}) {
            doc.due("not as told", x.bear(6, v), OUTSIDE);
        }
        doc.due("unchanged", x.bear(6, 0), 1);
    }

    private void quarrel() {
        doc.promise(28, "What all in a ROW mind together (all = true), how many do not BEAR it.");
        NamesInRow x = Build.allMind(new NamesInRow(), 9);
        for (int person = 0; person <= 6; person++) {
            x.bear(person, 0);
        }
        for (int size = 0; size <= 7; size++) {
            doc.due("all of " + size, x.quarrel(7, true), 9 * size * (size - 1) / 2);
            doc.due("the first of " + size + " bears it", x.quarrel(7, false), Math.max(size - 1, 0));
            x.name(7, size);
        }
        doc.due("an empty row", x.quarrel(0, true), 0);
        doc.due("an empty row", x.quarrel(0, false), 0);
        for (int person = 0; person <= 6; person++) {
            Build.row(x, 0, person);
            doc.due("one alone minds nobody", x.quarrel(0, true), 0);
            doc.due("one alone bears it", x.quarrel(0, false), 0);
        }
        doc.promise(28, "UNKNOWN.");
        for (int paper : Build.NO_PAPER) {
            doc.due("no paper", x.quarrel(paper, true), UNKNOWN);
            doc.due("no paper", x.quarrel(paper, false), UNKNOWN);
        }
    }

    private void peace() {
        doc.promise(29, "What all mind in THE PEACE of a set (bits, 0 to 127); NONE: there is no ORDER that all BEAR.");
        NamesInRow x = Build.allMind(new NamesInRow(), 1);
        for (int set = 0; set <= SEVEN; set++) {
            int size = Integer.bitCount(set);
            doc.due("peace(" + set + ")", x.peace(set), size * (size - 1) / 2);
        }
        x.bear(0, 0);
        x.bear(6, 0);
        for (int set = 0; set <= SEVEN; set++) {
            int size = Integer.bitCount(set);
            doc.due("0 and 6 both want to be first, peace(" + set + ")", x.peace(set), (set & 65) == 65 ? NONE : size * (size - 1) / 2);
        }
        doc.promise(29, "OUTSIDE.");
        for (int set : NO_SET) {
            doc.due("no set", x.peace(set), OUTSIDE);
        }
    }

    private void peaceAt() {
        doc.promise(30, "The i-th in THE PEACE; NONE.");
        NamesInRow x = new NamesInRow();
        orderIs("the empty set", x, 0);
        for (int person = 0; person <= 6; person++) {
            orderIs("one alone", x, 1 << person, person);
        }
        orderIs("the first and the last", x, 65, 0, 6);
        orderIs("all seven", x, SEVEN, 0, 1, 2, 3, 4, 5, 6);
        for (int place : Build.NEVER_A_PLACE) {
            doc.due("no place of seven", x.peaceAt(SEVEN, place), NONE);
            doc.due("no place of none", x.peaceAt(0, place), NONE);
        }
        x.mind(6, 0, 1);
        x.bear(6, 0);
        orderIs("the last goes first", x, 65, 6, 0);
        orderIs("just ahead of the first", x, SEVEN, 1, 2, 3, 4, 5, 6, 0);
        x.mind(0, 6, 1);
        x.bear(0, 0);
        orderIs("there is no peace", x, 65);
        orderIs("there is no peace of seven", x, SEVEN);
        doc.promise(30, "OUTSIDE: set.");
        for (int set : NO_SET) {
            doc.due("no set", x.peaceAt(set, 0), OUTSIDE);
            doc.due("no set, no place", x.peaceAt(set, -1), OUTSIDE);
            doc.due("no set, no place", x.peaceAt(set, 7), OUTSIDE);
        }
    }

    private void settle() {
        doc.promise(31, "THE PEACE of those in a ROW is its ROW: how many stand otherwise; NONE: there is none.");
        NamesInRow x = new NamesInRow();
        doc.due("an empty row", x.settle(7), 0);
        doc.due("it is empty still", x.at(7, 0), NONE);
        Build.row(x, 7, 6);
        doc.due("one alone", x.settle(7), 0);
        doc.due("it stands there still", x.at(7, 0), 6);
        Build.row(x, 7, 6, 5, 4, 3, 2, 1, 0);
        doc.due("all but the one in the middle", x.settle(7), 6);
        for (int i = 0; i < 7; i++) {
            doc.due("place " + i, x.at(7, i), i);
        }
        doc.due("nobody stands otherwise", x.settle(7), 0);
        Build.row(x, 7, 1, 2, 3, 4, 5, 6, 0);
        doc.due("all seven", x.settle(7), 7);
        x.swap(7, 5);
        doc.due("two", x.settle(7), 2);
        Build.row(x, 0, 5, 3);
        x.mind(5, 3, 1);
        x.mind(3, 5, 1);
        x.bear(3, 0);
        doc.due("as all bear it", x.settle(0), 2);
        doc.due("the first", x.at(0, 0), 3);
        doc.due("the second", x.at(0, 1), 5);
        doc.due("nobody else", x.at(0, 2), NONE);
        x.swap(0, 0);
        x.bear(5, 0);
        doc.due("there is none", x.settle(0), NONE);
        doc.due("the row stays", x.at(0, 0), 5);
        doc.due("the row stays", x.at(0, 1), 3);
        doc.due("another row is not touched", x.at(7, 6), 6);
        doc.promise(31, "UNKNOWN.");
        for (int paper : Build.NO_PAPER) {
            doc.due("no paper", x.settle(paper), UNKNOWN);
        }
        doc.due("the row stays", x.at(0, 0), 5);
    }
}
