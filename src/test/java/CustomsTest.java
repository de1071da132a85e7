/** Promises 12 to 16: customs. */
public final class CustomsTest {
    private static final Check CHECK = new Check("CustomsTest");
    private static final int[] NO_PAPER = {-1, 8, Integer.MIN_VALUE, Integer.MAX_VALUE, NamesInRow.NONE};
    private static final int[] NO_PERSON = {-1, 7, -2, -8, -10, Integer.MIN_VALUE, Integer.MAX_VALUE};
    private static final int[] NO_TRADE = {-1, 3, Integer.MIN_VALUE, Integer.MAX_VALUE};
    private static final int[] NO_CUSTOM = {-1, 4, Integer.MIN_VALUE, Integer.MAX_VALUE};

    public static void main(String[] args) {
        room();
        due();
        dueBySize();
        fits();
        learn();
        off();
        CHECK.end();
    }

    private static void room() {
        NamesInRow x = new NamesInRow();
        CHECK.due("12: room(0, 3)", x.room(0, 3), NamesInRow.NONE);
        CHECK.due("12: room(2, 6)", x.room(2, 6), NamesInRow.NONE);
        CHECK.due("12: room(0, 0)", x.room(0, 0), 3);
        CHECK.due("12: nobody", x.room(0, NamesInRow.NONE), 0);
        CHECK.due("12: after nobody", x.room(0, 5), NamesInRow.NONE);
        for (int trade : NO_TRADE) {
            CHECK.due("12: no trade", x.room(trade, 0), -2);
            CHECK.due("12: no trade, nobody", x.room(trade, NamesInRow.NONE), -2);
            CHECK.due("12: OUTSIDE is named first", x.room(trade, 7), -2);
        }
        for (int person : NO_PERSON) {
            CHECK.due("12: no person", x.room(0, person), -1);
        }
        CHECK.due("12: unchanged", x.room(0, 1), 5);
        CHECK.due("12: another trade", x.room(2, 1), 6);
    }

    /** By SHARE 1, 2, 3, 0, 4 (2 and 3 are alike); the ROW stands 4, 3, 2, 1, 0. */
    private static NamesInRow five(int paper) {
        NamesInRow x = new NamesInRow();
        int[] hours = {1, 5, 3, 3, 0, 9, 9};
        for (int person = 0; person < 7; person++) {
            x.hours(paper, 0, person, hours[person]);
        }
        for (int person = 4; person >= 0; person--) {
            x.name(paper, person);
        }
        return x;
    }

    private static void dueRow(String what, NamesInRow x, int paper, int custom, int... row) {
        for (int i = 0; i < row.length; i++) {
            CHECK.due(what + ", place " + i, x.due(paper, custom, i), row[i]);
        }
        CHECK.due(what + ", behind it", x.due(paper, custom, row.length), NamesInRow.NONE);
        CHECK.due(what + ", before it", x.due(paper, custom, -1), NamesInRow.NONE);
        CHECK.due(what + ", far", x.due(paper, custom, Integer.MAX_VALUE), NamesInRow.NONE);
        CHECK.due(what + ", far before", x.due(paper, custom, Integer.MIN_VALUE), NamesInRow.NONE);
    }

    private static void due() {
        NamesInRow x = five(6);
        x.trade(6, 1);
        dueRow("13: by share", x, 6, 0, 1, 2, 3, 0, 4);
        dueRow("13: by name", x, 6, 1, 0, 1, 2, 3, 4);
        dueRow("13: room of nobody", x, 6, 2, 1, 2, 3, 0, 4);
        dueRow("13: ends", x, 6, 3, 1, 3, 4, 0, 2);
        x.room(0, 1);
        x.room(2, 1);
        dueRow("13: room of other trades", x, 6, 2, 1, 2, 3, 0, 4);
        x.room(1, 5);
        dueRow("13: room of one not in the row", x, 6, 2, 1, 2, 3, 0, 4);
        x.room(1, 1);
        dueRow("13: room of the first", x, 6, 2, 2, 3, 0, 4, 1);
        dueRow("13: by share, room or not", x, 6, 0, 1, 2, 3, 0, 4);
        dueRow("13: ends, room or not", x, 6, 3, 1, 3, 4, 0, 2);
        x.room(1, 3);
        dueRow("13: room of one between", x, 6, 2, 1, 2, 0, 4, 3);
        x.room(1, 4);
        dueRow("13: room of the last", x, 6, 2, 1, 2, 3, 0, 4);
        CHECK.due("13: the row stays", x.at(6, 0), 4);
        for (int custom = 0; custom < 4; custom++) {
            dueRow("13: empty row", x, 0, custom);
        }
        for (int paper : NO_PAPER) {
            CHECK.due("13: no paper", x.due(paper, 0, 0), -1);
            CHECK.due("13: UNKNOWN is first", x.due(paper, 4, 0), -1);
        }
        for (int custom : NO_CUSTOM) {
            CHECK.due("13: no custom", x.due(6, custom, 0), -2);
            CHECK.due("13: no custom, no place", x.due(6, custom, -1), -2);
        }
    }

    private static void dueBySize() {
        NamesInRow x = new NamesInRow();
        for (int person = 0; person < 7; person++) {
            x.hours(0, 0, person, person + 1);
        }
        int[][] ends = {{0}, {1, 0}, {2, 0, 1}, {3, 1, 0, 2}, {4, 2, 0, 1, 3}, {5, 3, 1, 0, 2, 4},
            {6, 4, 2, 0, 1, 3, 5}};
        for (int person = 0; person < 7; person++) {
            x.name(0, person);
            dueRow("13: ends of " + (person + 1), x, 0, 3, ends[person]);
        }
        dueRow("13: by share of 7", x, 0, 0, 6, 5, 4, 3, 2, 1, 0);
        dueRow("13: by name of 7", x, 0, 1, 0, 1, 2, 3, 4, 5, 6);
    }

    private static void putRow(NamesInRow x, int paper, int... row) {
        x.unname(paper);
        for (int person : row) {
            x.name(paper, person);
        }
    }

    private static void fits() {
        NamesInRow x = five(3);
        CHECK.due("14: none", x.fits(3), 0);
        putRow(x, 3, 1, 2, 3, 0, 4);
        CHECK.due("14: by share, and room of nobody", x.fits(3), 5);
        x.room(0, 4);
        CHECK.due("14: room of the last", x.fits(3), 5);
        x.room(0, 1);
        CHECK.due("14: room of the first", x.fits(3), 1);
        putRow(x, 3, 2, 3, 0, 4, 1);
        CHECK.due("14: room", x.fits(3), 4);
        putRow(x, 3, 0, 1, 2, 3, 4);
        CHECK.due("14: by name", x.fits(3), 2);
        putRow(x, 3, 1, 3, 4, 0, 2);
        CHECK.due("14: ends", x.fits(3), 8);
        putRow(x, 3, 1, 2);
        CHECK.due("14: all but room", x.fits(3), 11);
        putRow(x, 3, 1);
        CHECK.due("14: one alone", x.fits(3), 15);
        putRow(x, 3);
        CHECK.due("14: an empty row", x.fits(3), 15);
        for (int paper : NO_PAPER) {
            CHECK.due("14: no paper", x.fits(paper), -1);
        }
    }

    private static void learn() {
        NamesInRow x = five(3);
        CHECK.due("15: trade 0", x.learn(0), 0);
        CHECK.due("15: no papers", x.learn(1), 15);
        putRow(x, 3, 1, 2, 3, 0, 4);
        CHECK.due("15: one with a row", x.learn(0), 5);
        putRow(x, 7, 0, 1);
        x.hours(7, 0, 1, 1);
        x.hours(7, 0, 0, 2);
        CHECK.due("15: two", x.learn(0), 5);
        x.room(0, 0);
        CHECK.due("15: room of one in the middle", x.learn(0), 1);
        x.hours(7, 0, 0, 0);
        CHECK.due("15: the second fits by name alone", x.fits(7), 2);
        CHECK.due("15: no custom for both", x.learn(0), 0);
        x.trade(7, 2);
        CHECK.due("15: trade 0 without it", x.learn(0), 1);
        CHECK.due("15: trade 2", x.learn(2), 2);
        x.room(2, 0);
        CHECK.due("15: trade 2, room of 0", x.learn(2), 2);
        x.room(2, 1);
        CHECK.due("15: trade 2, room of 1", x.learn(2), 6);
        putRow(x, 0, 4, 3);
        x.trade(0, 1);
        CHECK.due("15: the first paper", x.learn(1), 0);
        x.trade(7, 1);
        putRow(x, 0);
        x.room(1, 0);
        CHECK.due("15: the last paper", x.learn(1), 2);
        for (int trade : NO_TRADE) {
            CHECK.due("15: no trade", x.learn(trade), -2);
        }
    }

    private static void off() {
        NamesInRow x = five(2);
        CHECK.due("16: by share", x.off(2, 0), 7);
        CHECK.due("16: by name", x.off(2, 1), 10);
        CHECK.due("16: room of nobody", x.off(2, 2), 7);
        CHECK.due("16: ends", x.off(2, 3), 5);
        x.room(0, 1);
        CHECK.due("16: room", x.off(2, 2), 5);
        putRow(x, 2, 0, 1, 2, 3, 4);
        CHECK.due("16: none by name", x.off(2, 1), 0);
        putRow(x, 2, 6, 5, 4, 3, 2, 1, 0);
        CHECK.due("16: all by name", x.off(2, 1), 21);
        CHECK.due("16: empty row", x.off(0, 0), 0);
        for (int paper : NO_PAPER) {
            CHECK.due("16: no paper", x.off(paper, 0), -1);
            CHECK.due("16: UNKNOWN is first", x.off(paper, 4), -1);
        }
        for (int custom : NO_CUSTOM) {
            CHECK.due("16: no custom", x.off(2, custom), -2);
        }
    }
}
