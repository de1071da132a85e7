/** Edges of the customs, and of promises 12 to 16. */
final class CustomsEdges {
    private static final int NONE = NamesInRow.NONE, UNKNOWN = NamesInRow.UNKNOWN, OUTSIDE = NamesInRow.OUTSIDE;
    private static final int BY_SHARE = 0, BY_NAME = 1, ROOM = 2, ENDS = 3;
    private static final int[] NO_CUSTOM = {-1, 4, NONE, Integer.MIN_VALUE, Integer.MAX_VALUE, 256};
    private static final int[] NO_TRADE = {-1, 3, NONE, Integer.MIN_VALUE, Integer.MAX_VALUE, 256};
    private final Sentences doc;

    CustomsEdges(Sentences doc) {
        this.doc = doc;
    }

    void run() {
        byShare();
        byName();
        byRoom();
        ends();
        fitsACustom();
        nobodyAtFirst();
        room();
        due();
        fits();
        learn();
        off();
    }

    private void rowIs(String what, NamesInRow x, int paper, int custom, int... row) {
        for (int i = 0; i < 7; i++) {
            doc.due(what + ", place " + i, x.due(paper, custom, i), i < row.length ? row[i] : NONE);
        }
    }

    private void byShare() {
        doc.term("CUSTOMS: how those in a ROW are put in order: 0 BY SHARE (the greatest first; of like ones the lesser number),");
        NamesInRow x = new NamesInRow();
        rowIs("an empty row", x, 7, BY_SHARE);
        Build.row(x, 7, 4);
        rowIs("one alone", x, 7, BY_SHARE, 4);
        Build.row(x, 7, 6, 5, 4, 3, 2, 1, 0);
        rowIs("seven, nothing is done", x, 7, BY_SHARE, 0, 1, 2, 3, 4, 5, 6);
        Build.hours(x, 7, 0, 3, 3, 3, 3, 3, 3, 3);
        rowIs("seven alike", x, 7, BY_SHARE, 0, 1, 2, 3, 4, 5, 6);
        x.hours(7, 0, 6, 4);
        rowIs("one is greater", x, 7, BY_SHARE, 6, 0, 1, 2, 3, 4, 5);
        x.hours(7, 0, 0, 2);
        rowIs("one is less", x, 7, BY_SHARE, 6, 1, 2, 3, 4, 5, 0);
        // Of two TASKS: 9/52 and 4/23 are like ones in thousandths, and 4/23 is the greater.
        NamesInRow y = Build.row(Build.weights(new NamesInRow(), 0, 1, 1), 0, 0, 1);
        Build.hours(y, 0, 0, 9, 0, 9, 9, 9, 9, 7);
        Build.hours(y, 0, 1, 0, 4, 9, 9, 1, 0, 0);
        rowIs("4/23 ahead of 9/52", y, 0, BY_SHARE, 1, 0);
        y.hours(0, 0, 6, 6);
        rowIs("9/51 ahead of 4/23", y, 0, BY_SHARE, 0, 1);
        // 9/54 and 3/18 are one number.
        Build.hours(y, 0, 0, 9, 0, 9, 9, 9, 9, 9);
        Build.hours(y, 0, 1, 0, 3, 9, 6, 0, 0, 0);
        rowIs("9/54 and 3/18", Build.row(y, 0, 1, 0), 0, BY_SHARE, 0, 1);
    }

    private void byName() {
        doc.term("1 BY NAME (by number),");
        NamesInRow x = new NamesInRow();
        rowIs("an empty row", x, 7, BY_NAME);
        Build.row(x, 7, 6);
        rowIs("one alone", x, 7, BY_NAME, 6);
        Build.row(x, 7, 6, 0);
        rowIs("the last and the first", x, 7, BY_NAME, 0, 6);
        Build.row(x, 7, 6, 5, 4, 3, 2, 1, 0);
        Build.hours(x, 7, 0, 1, 2, 3, 4, 5, 6, 7);
        rowIs("seven", x, 7, BY_NAME, 0, 1, 2, 3, 4, 5, 6);
    }

    private void byRoom() {
        doc.term("2 ROOM (BY SHARE, but he who has THE ROOM of the TRADE, if in the ROW, is last),");
        NamesInRow x = Build.row(Build.hours(new NamesInRow(), 7, 0, 7, 6, 5, 4, 3, 2, 1), 7, 6, 5, 4, 3, 2, 1, 0);
        x.trade(7, 2);
        rowIs("nobody has it", x, 7, ROOM, 0, 1, 2, 3, 4, 5, 6);
        x.room(0, 0);
        x.room(1, 0);
        rowIs("he has other rooms", x, 7, ROOM, 0, 1, 2, 3, 4, 5, 6);
        x.room(2, 0);
        rowIs("the first has it", x, 7, ROOM, 1, 2, 3, 4, 5, 6, 0);
        rowIs("an empty row", x, 0, ROOM);
        x.room(2, 6);
        rowIs("the last has it", x, 7, ROOM, 0, 1, 2, 3, 4, 5, 6);
        x.room(2, 3);
        rowIs("one between has it", x, 7, ROOM, 0, 1, 2, 4, 5, 6, 3);
        Build.row(x, 7, 6, 0);
        rowIs("he is not in the row", x, 7, ROOM, 0, 6);
        Build.row(x, 7, 3);
        rowIs("he is alone", x, 7, ROOM, 3);
        Build.row(x, 7, 4, 3);
        x.room(2, NONE);
        rowIs("nobody has it again", x, 7, ROOM, 3, 4);
    }

    private void ends() {
        doc.term("3 ENDS (BY SHARE the greatest is first, the next last, the next second, the next last but one, and so on).");
        int[][] rows = {{}, {6}, {6, 5}, {6, 4, 5}, {6, 4, 3, 5}, {6, 4, 2, 3, 5}, {6, 4, 2, 1, 3, 5}, {6, 4, 2, 0, 1, 3, 5}};
        NamesInRow x = Build.hours(new NamesInRow(), 7, 0, 1, 2, 3, 4, 5, 6, 7);
        for (int size = 0; size <= 7; size++) {
            rowIs("ends of " + size, x, 7, ENDS, rows[size]);
            x.name(7, 6 - size);
        }
        NamesInRow y = Build.row(new NamesInRow(), 0, 6, 5, 4, 3, 2, 1, 0);
        rowIs("ends of seven alike", y, 0, ENDS, 0, 2, 4, 6, 5, 3, 1);
    }

    private void fitsACustom() {
        doc.term("A PAPER FITS a CUSTOM, if its ROW stands as that CUSTOM has it.");
        NamesInRow x = new NamesInRow();
        doc.due("an empty row stands as any", x.fits(0), 15);
        Build.row(x, 0, 5);
        x.room(0, 5);
        doc.due("one alone stands as any", x.fits(0), 15);
        Build.row(x, 0, 0, 1, 2, 3, 4, 5, 6);
        x.room(0, 6);
        doc.due("seven alike by number", x.fits(0), 7);
        x.swap(0, 5);
        doc.due("but for the last two", x.fits(0), 0);
        x.swap(0, 5);
        x.swap(0, 0);
        doc.due("but for the first two", x.fits(0), 0);
    }

    private void nobodyAtFirst() {
        doc.term("(THE ROOM of a TRADE: a PERSON, or nobody, as at first.)");
        for (int trade = 0; trade <= 2; trade++) {
            NamesInRow x = new NamesInRow();
            doc.due("at first", x.room(trade, 6), NONE);
            doc.due("a person", x.room(trade, 0), 6);
            doc.due("the least person", x.room(trade, NONE), 0);
            doc.due("nobody", x.room(trade, NONE), NONE);
        }
    }

    private void room() {
        doc.promise(12, "Who has THE ROOM of a TRADE (NONE: nobody): who had it.");
        NamesInRow x = new NamesInRow();
        doc.due("nobody, as at first", x.room(0, NONE), NONE);
        doc.due("0", x.room(0, 0), NONE);
        doc.due("of the last trade", x.room(2, 6), NONE);
        doc.due("he himself", x.room(0, 0), 0);
        doc.due("6", x.room(0, 6), 0);
        doc.due("one may have two", x.room(2, NONE), 6);
        doc.due("nobody had it", x.room(2, 1), NONE);
        doc.promise(12, "OUTSIDE: trade; UNKNOWN: person.");
        for (int trade : NO_TRADE) {
            doc.due("no trade", x.room(trade, 0), OUTSIDE);
            doc.due("no trade, nobody", x.room(trade, NONE), OUTSIDE);
            doc.due("no trade, no person", x.room(trade, 7), OUTSIDE);
            doc.due("no trade, no person", x.room(trade, -1), OUTSIDE);
        }
        for (int person : new int[] {-1, 7, -8, -10, -2, -3, -4, Integer.MIN_VALUE, Integer.MAX_VALUE, 256}) {
            doc.due("no person", x.room(0, person), UNKNOWN);
        }
        doc.due("unchanged", x.room(0, 0), 6);
        doc.due("unchanged", x.room(2, 0), 1);
        doc.due("unchanged", x.room(1, 0), NONE);
    }

    private void due() {
        doc.promise(13, "Whom a CUSTOM has at the i-th place of a ROW; NONE.");
        NamesInRow x = Build.row(Build.hours(new NamesInRow(), 7, 0, 1, 2, 3), 7, 0, 2);
        for (int custom = 0; custom <= 3; custom++) {
            boolean isByName = custom == BY_NAME;
            doc.due("the first", x.due(7, custom, 0), isByName ? 0 : 2);
            doc.due("the second", x.due(7, custom, 1), isByName ? 2 : 0);
            doc.due("behind them", x.due(7, custom, 2), NONE);
            doc.due("in an empty row", x.due(0, custom, 0), NONE);
            for (int place : Build.NEVER_A_PLACE) {
                doc.due("no place", x.due(7, custom, place), NONE);
                doc.due("no place of an empty row", x.due(0, custom, place), NONE);
            }
        }
        doc.due("the row itself stays", x.at(7, 0), 0);
        doc.promise(13, "UNKNOWN: paper; OUTSIDE: custom.");
        for (int paper : Build.NO_PAPER) {
            doc.due("no paper", x.due(paper, 0, 0), UNKNOWN);
            doc.due("no paper, no place", x.due(paper, 0, -1), UNKNOWN);
            doc.due("no paper, no custom", x.due(paper, 4, 0), UNKNOWN);
        }
        for (int custom : NO_CUSTOM) {
            doc.due("no custom", x.due(7, custom, 0), OUTSIDE);
            doc.due("no custom, no place", x.due(7, custom, 7), OUTSIDE);
            doc.due("no custom, an empty row", x.due(0, custom, 0), OUTSIDE);
        }
    }

    private void fits() {
        doc.promise(14, "CUSTOMS that a PAPER FITS, as bits.");
        NamesInRow x = Build.hours(new NamesInRow(), 7, 0, 1, 2, 3, 4, 5, 6, 7);
        x.room(0, 4);
        doc.due("an empty row: all", x.fits(7), 15);
        Build.row(x, 7, 6, 5, 4, 3, 2, 1, 0);
        doc.due("by share", x.fits(7), 1);
        Build.row(x, 7, 0, 1, 2, 3, 4, 5, 6);
        doc.due("by name", x.fits(7), 2);
        Build.row(x, 7, 6, 5, 3, 2, 1, 0, 4);
        doc.due("room", x.fits(7), 4);
        Build.row(x, 7, 6, 4, 2, 0, 1, 3, 5);
        doc.due("ends", x.fits(7), 8);
        Build.row(x, 7, 6, 4, 2, 0, 1, 5, 3);
        doc.due("none", x.fits(7), 0);
        doc.promise(14, "UNKNOWN.");
        for (int paper : Build.NO_PAPER) {
            doc.due("no paper", x.fits(paper), UNKNOWN);
        }
    }

    private void learn() {
        doc.promise(15, "CUSTOMS that all PAPERS of a TRADE FIT (those with an empty ROW do any), as bits.");
        NamesInRow x = new NamesInRow();
        doc.due("all rows are empty", x.learn(0), 15);
        doc.due("a trade without papers", x.learn(2), 15);
        Build.row(Build.hours(x, 0, 0, 1, 2, 3), 0, 2, 1, 0);
        doc.due("the first by share, the others empty", x.learn(0), 5);
        Build.row(Build.hours(x, 7, 0, 1, 2, 3), 7, 2, 0, 1);
        doc.due("the last by its ends", x.fits(7), 8);
        doc.due("nothing for both", x.learn(0), 0);
        x.trade(7, 2);
        doc.due("the first alone", x.learn(0), 5);
        doc.due("the last alone", x.learn(2), 8);
        doc.due("between them none", x.learn(1), 15);
        x.unname(7);
        doc.due("an empty row in a trade alone", x.learn(2), 15);
        doc.promise(15, "OUTSIDE.");
        for (int trade : NO_TRADE) {
            doc.due("no trade", x.learn(trade), OUTSIDE);
        }
    }

    private void off() {
        doc.promise(16, "How many pairs of PEOPLE in a ROW stand the other way about than a CUSTOM has them.");
        NamesInRow x = new NamesInRow();
        x.room(0, 0);
        for (int size = 0; size <= 7; size++) {
            doc.due("by share, " + size, x.off(7, BY_SHARE), size * (size - 1) / 2);
            doc.due("by name, " + size, x.off(7, BY_NAME), size * (size - 1) / 2);
            x.name(7, 6 - size);
        }
        doc.due("all but the pairs with him who has the room", x.off(7, ROOM), 15);
        // ENDS has 0 2 4 6 5 3 1: of 6 5 4 3 2 1 0 the pairs 6 5, 6 3, 6 1, 5 3, 5 1, 4 3, 4 1, 3 1, 2 1 stand so.
        doc.due("ends", x.off(7, ENDS), 12);
        Build.row(x, 7, 0, 1, 2, 3, 4, 5, 6);
        doc.due("none by share", x.off(7, BY_SHARE), 0);
        doc.due("none by name", x.off(7, BY_NAME), 0);
        doc.due("six with him who has the room", x.off(7, ROOM), 6);
        doc.due("ends the other way", x.off(7, ENDS), 9);
        doc.promise(16, "UNKNOWN; OUTSIDE.");
        for (int paper : Build.NO_PAPER) {
            doc.due("no paper", x.off(paper, 0), UNKNOWN);
            doc.due("no paper, no custom", x.off(paper, 4), UNKNOWN);
        }
        for (int custom : NO_CUSTOM) {
            doc.due("no custom", x.off(7, custom), OUTSIDE);
            doc.due("no custom, an empty row", x.off(0, custom), OUTSIDE);
        }
    }
}
