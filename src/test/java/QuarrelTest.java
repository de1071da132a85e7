/** Promises 26 to 31: quarrel. */
public final class QuarrelTest {
    private static final Check CHECK = new Check("QuarrelTest");
    private static final int[] NO_PAPER = {-1, 8, Integer.MIN_VALUE, Integer.MAX_VALUE, NamesInRow.NONE};
    private static final int[] NO_PERSON = {-1, 7, Integer.MIN_VALUE, Integer.MAX_VALUE, NamesInRow.NONE};
    private static final int[] NO_SET = {-1, 128, Integer.MIN_VALUE, Integer.MAX_VALUE, NamesInRow.NONE};
    private static final int[] NO_PLACE = {-1, 7, Integer.MIN_VALUE, Integer.MAX_VALUE, NamesInRow.NONE};

    public static void main(String[] args) {
        mind();
        bear();
        quarrel();
        peaceOfTwo();
        peaceOfThree();
        peaceOfSeven();
        peaceRefused();
        settle();
        settleOfNone();
        CHECK.end();
    }

    private static void mind() {
        NamesInRow x = new NamesInRow();
        CHECK.due("26: mind(6, 0, 9)", x.mind(6, 0, 9), 0);
        CHECK.due("26: the other way about", x.mind(0, 6, 4), 0);
        CHECK.due("26: mind(6, 0, 0)", x.mind(6, 0, 0), 9);
        CHECK.due("26: mind(0, 6, 10)", x.mind(0, 6, 10), -2);
        CHECK.due("26: mind(0, 6, -1)", x.mind(0, 6, -1), -2);
        CHECK.due("26: both are one", x.mind(3, 3, 9), -3);
        CHECK.due("26: OUTSIDE before STATE", x.mind(3, 3, 10), -2);
        for (int person : NO_PERSON) {
            CHECK.due("26: no person", x.mind(person, 0, 0), -1);
            CHECK.due("26: no other", x.mind(0, person, 0), -1);
            CHECK.due("26: UNKNOWN before OUTSIDE", x.mind(person, 0, 10), -1);
            CHECK.due("26: UNKNOWN before STATE", x.mind(person, person, 10), -1);
        }
        CHECK.due("26: unchanged", x.mind(0, 6, 0), 4);
    }

    private static void bear() {
        NamesInRow x = new NamesInRow();
        CHECK.due("27: bear(6, 0)", x.bear(6, 0), 60);
        CHECK.due("27: bear(6, 60)", x.bear(6, 60), 0);
        CHECK.due("27: bear(6, 61)", x.bear(6, 61), -2);
        CHECK.due("27: bear(6, -1)", x.bear(6, -1), -2);
        for (int person : NO_PERSON) {
            CHECK.due("27: no person", x.bear(person, 0), -1);
            CHECK.due("27: UNKNOWN is first", x.bear(person, 61), -1);
        }
        CHECK.due("27: unchanged", x.bear(6, 1), 60);
    }

    private static void quarrel() {
        NamesInRow x = new NamesInRow();
        CHECK.due("28: empty row", x.quarrel(4, true), 0);
        CHECK.due("28: empty row", x.quarrel(4, false), 0);
        x.mind(1, 0, 3);
        x.mind(2, 0, 4);
        x.mind(2, 1, 5);
        x.mind(0, 1, 9);
        x.mind(2, 6, 9);
        x.name(4, 0);
        x.name(4, 1);
        x.name(4, 2);
        CHECK.due("28: all", x.quarrel(4, true), 12);
        CHECK.due("28: all bear it", x.quarrel(4, false), 0);
        x.bear(2, 9);
        CHECK.due("28: just borne", x.quarrel(4, false), 0);
        x.bear(2, 8);
        CHECK.due("28: one does not", x.quarrel(4, false), 1);
        x.bear(1, 2);
        CHECK.due("28: two do not", x.quarrel(4, false), 2);
        x.bear(0, 0);
        CHECK.due("28: the first minds nothing", x.quarrel(4, false), 2);
        CHECK.due("28: all, borne or not", x.quarrel(4, true), 12);
        x.swap(4, 0);
        CHECK.due("28: 1, 0, 2", x.quarrel(4, true), 18);
        CHECK.due("28: 1, 0, 2", x.quarrel(4, false), 2);
        for (int paper : NO_PAPER) {
            CHECK.due("28: no paper", x.quarrel(paper, true), -1);
            CHECK.due("28: no paper", x.quarrel(paper, false), -1);
        }
    }

    private static void peaceDue(String what, NamesInRow x, int set, int minded, int... order) {
        CHECK.due("29: " + what, x.peace(set), minded);
        for (int i = 0; i < 7; i++) {
            int due = i < order.length ? order[i] : NamesInRow.NONE;
            CHECK.due("30: " + what + ", place " + i, x.peaceAt(set, i), due);
        }
        for (int place : NO_PLACE) {
            CHECK.due("30: " + what + ", no place", x.peaceAt(set, place), NamesInRow.NONE);
        }
    }

    private static void peaceOfTwo() {
        NamesInRow x = new NamesInRow();
        peaceDue("nobody", x, 0, 0);
        peaceDue("one", x, 64, 0, 6);
        peaceDue("two alike", x, 66, 0, 1, 6);
        x.mind(1, 6, 1);
        x.mind(6, 1, 2);
        peaceDue("the lesser quarrel", x, 66, 1, 6, 1);
        x.mind(1, 6, 2);
        peaceDue("the first by numbers", x, 66, 2, 1, 6);
        x.mind(1, 6, 1);
        x.bear(1, 0);
        peaceDue("what all bear", x, 66, 2, 1, 6);
        x.bear(6, 2);
        peaceDue("what all just bear", x, 66, 2, 1, 6);
        x.bear(6, 1);
        peaceDue("none", x, 66, NamesInRow.NONE);
        peaceDue("none of three", x, 67, NamesInRow.NONE);
        peaceDue("of one of them", x, 3, 0, 0, 1);
        x.bear(1, 1);
        peaceDue("again", x, 66, 1, 6, 1);
    }

    private static void peaceOfThree() {
        NamesInRow x = new NamesInRow();
        // 0 minds all, but little; 1 minds 0 and 2 minds 1.
        x.mind(0, 1, 2);
        x.mind(0, 2, 2);
        x.mind(1, 0, 5);
        x.mind(2, 1, 1);
        x.mind(1, 2, 4);
        // 0 1 2: 6; 0 2 1: 9; 1 0 2: 3; 1 2 0: 5; 2 0 1: 11; 2 1 0: 8.
        peaceDue("least of six", x, 7, 3, 1, 0, 2);
        x.bear(2, 0);
        // Only 0 2 1, 2 0 1, 2 1 0 keep 2 ahead of 1.
        peaceDue("one bears nothing", x, 7, 8, 2, 1, 0);
        x.bear(0, 3);
        // 2 1 0 has 0 behind both: 4.
        peaceDue("another bears little", x, 7, 9, 0, 2, 1);
        x.bear(1, 8);
        peaceDue("and none is left", x, 7, NamesInRow.NONE);
        x.bear(1, 9);
        peaceDue("9 is just borne", x, 7, 9, 0, 2, 1);
    }

    private static void peaceOfSeven() {
        NamesInRow x = new NamesInRow();
        peaceDue("seven at peace", x, 127, 0, 0, 1, 2, 3, 4, 5, 6);
        for (int person = 0; person < 7; person++) {
            for (int other = 0; other < 7; other++) {
                if (person != other) {
                    x.mind(person, other, 9);
                }
            }
        }
        peaceDue("all mind all", x, 127, 189, 0, 1, 2, 3, 4, 5, 6);
        x.bear(6, 53);
        peaceDue("6 cannot be last", x, 127, 189, 0, 1, 2, 3, 4, 6, 5);
        x.bear(0, 0);
        x.bear(3, 9);
        x.bear(6, 18);
        peaceDue("three have their places", x, 127, 189, 0, 3, 6, 1, 2, 4, 5);
        x.bear(5, 0);
        peaceDue("two want to be first", x, 127, NamesInRow.NONE);
        x.mind(5, 0, 0);
        x.mind(5, 3, 0);
        x.bear(6, 27);
        peaceDue("one of them does not mind", x, 127, 171, 0, 3, 5, 6, 1, 2, 4);
    }

    private static void peaceRefused() {
        NamesInRow x = new NamesInRow();
        for (int set : NO_SET) {
            CHECK.due("29: no set", x.peace(set), -2);
            CHECK.due("30: no set", x.peaceAt(set, 0), -2);
            CHECK.due("30: no set, no place", x.peaceAt(set, -1), -2);
        }
    }

    private static void settle() {
        NamesInRow x = new NamesInRow();
        CHECK.due("31: empty row", x.settle(3), 0);
        x.name(3, 6);
        CHECK.due("31: one alone", x.settle(3), 0);
        x.name(3, 2);
        x.name(3, 4);
        x.mind(2, 4, 3);
        x.mind(4, 2, 2);
        // 4 minds 2 less than 2 minds 4; nobody minds 6.
        CHECK.due("31: three", x.settle(3), 3);
        CHECK.due("31: first", x.at(3, 0), 2);
        CHECK.due("31: second", x.at(3, 1), 4);
        CHECK.due("31: third", x.at(3, 2), 6);
        CHECK.due("31: none is left", x.at(3, 3), NamesInRow.NONE);
        CHECK.due("31: again", x.settle(3), 0);
        x.swap(3, 1);
        CHECK.due("31: two", x.settle(3), 2);
        CHECK.due("31: second again", x.at(3, 1), 4);
        CHECK.due("31: how many stand there", x.count(1), 3);
        CHECK.due("31: named behind it", x.name(3, 0), 4);
        for (int paper : NO_PAPER) {
            CHECK.due("31: no paper", x.settle(paper), -1);
        }
    }

    private static void settleOfNone() {
        NamesInRow x = new NamesInRow();
        x.name(0, 5);
        x.name(0, 1);
        x.name(0, 3);
        x.mind(1, 5, 1);
        x.mind(5, 1, 1);
        x.bear(1, 0);
        x.bear(5, 0);
        CHECK.due("31: there is none", x.settle(0), NamesInRow.NONE);
        CHECK.due("31: the row stays", x.at(0, 0), 5);
        CHECK.due("31: the row stays", x.at(0, 1), 1);
        CHECK.due("31: the row stays", x.at(0, 2), 3);
        x.bear(5, 1);
        CHECK.due("31: there is one", x.settle(0), 3);
        CHECK.due("31: 1 is first", x.at(0, 0), 1);
        CHECK.due("31: 3 is second", x.at(0, 1), 3);
        CHECK.due("31: 5 is last", x.at(0, 2), 5);
    }
}
