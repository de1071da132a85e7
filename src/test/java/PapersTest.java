/** Promises 1 to 11: a new object and papers. */
public final class PapersTest {
    private static final Check CHECK = new Check("PapersTest");
    private static final int[] NO_PAPER = {-1, 8, Integer.MIN_VALUE, Integer.MAX_VALUE, NamesInRow.NONE};
    private static final int[] NO_PERSON = {-1, 7, Integer.MIN_VALUE, Integer.MAX_VALUE, NamesInRow.NONE};

    public static void main(String[] args) {
        newObject();
        objectsApart();
        trade();
        task();
        hours();
        name();
        unname();
        at();
        swap();
        share();
        shareOfFourTasks();
        gifts();
        CHECK.end();
    }

    private static void newObject() {
        NamesInRow x = new NamesInRow();
        for (int paper = 0; paper < 8; paper++) {
            CHECK.due("1: at", x.at(paper, 0), NamesInRow.NONE);
            CHECK.due("1: over", x.over(paper), 900);
            CHECK.due("1: fits", x.fits(paper), 15);
            CHECK.due("1: trade", x.trade(paper, 1), 0);
            for (int task = 0; task < 4; task++) {
                CHECK.due("1: weight", x.task(paper, task, 0, 2), task == 0 ? 1 : 0);
                CHECK.due("1: cost", x.task(paper, task, 1, 2), 1);
                for (int person = 0; person < 7; person++) {
                    CHECK.due("1: hours", x.hours(paper, task, person, 0), 0);
                }
            }
            for (int person = 0; person < 7; person++) {
                CHECK.due("1: claim", x.claim(paper, person, 1), 0);
            }
        }
        for (int trade = 0; trade < 3; trade++) {
            CHECK.due("1: room", x.room(trade, 1), NamesInRow.NONE);
        }
        for (int person = 0; person < 7; person++) {
            CHECK.due("1: bear", x.bear(person, 1), 60);
            for (int other = 0; other < 7; other++) {
                CHECK.due("1: mind", x.mind(person, other, 1), person == other ? -3 : 0);
            }
        }
        for (int what = 0; what < 4; what++) {
            CHECK.due("1: count", new NamesInRow().count(what), 0);
        }
    }

    private static void objectsApart() {
        NamesInRow x = new NamesInRow();
        NamesInRow y = new NamesInRow();
        x.name(0, 3);
        x.trade(0, 2);
        x.hours(0, 0, 3, 4);
        x.room(0, 3);
        x.bear(0, 0);
        CHECK.due("1: another object's row", y.at(0, 0), NamesInRow.NONE);
        CHECK.due("1: another object's trade", y.trade(0, 0), 0);
        CHECK.due("1: another object's hours", y.hours(0, 0, 3, 0), 0);
        CHECK.due("1: another object's room", y.room(0, 0), NamesInRow.NONE);
        CHECK.due("1: another object's bear", y.bear(0, 0), 60);
    }

    private static void trade() {
        NamesInRow x = new NamesInRow();
        CHECK.due("2: trade(7, 2)", x.trade(7, 2), 0);
        CHECK.due("2: trade(7, 1)", x.trade(7, 1), 2);
        CHECK.due("2: another paper", x.trade(6, 0), 0);
        for (int paper : NO_PAPER) {
            CHECK.due("2: no paper", x.trade(paper, 0), -1);
            CHECK.due("2: UNKNOWN is first", x.trade(paper, 3), -1);
        }
        CHECK.due("2: trade(7, 3)", x.trade(7, 3), -2);
        CHECK.due("2: trade(7, -1)", x.trade(7, -1), -2);
        CHECK.due("2: what is refused changes nothing", x.trade(7, 0), 1);
    }

    private static void task() {
        NamesInRow x = new NamesInRow();
        CHECK.due("3: weight 9", x.task(7, 3, 0, 9), 0);
        CHECK.due("3: cost 50", x.task(7, 3, 1, 50), 1);
        CHECK.due("3: weight 0", x.task(7, 3, 0, 0), 9);
        CHECK.due("3: cost 0", x.task(7, 3, 1, 0), 50);
        CHECK.due("3: weight 10", x.task(7, 3, 0, 10), -2);
        CHECK.due("3: weight -1", x.task(7, 3, 0, -1), -2);
        CHECK.due("3: cost 51", x.task(7, 3, 1, 51), -2);
        CHECK.due("3: cost -1", x.task(7, 3, 1, -1), -2);
        CHECK.due("3: what 2", x.task(7, 3, 2, 0), -2);
        CHECK.due("3: what -1", x.task(7, 3, -1, 0), -2);
        for (int paper : NO_PAPER) {
            CHECK.due("3: no paper", x.task(paper, 0, 0, 0), -1);
            CHECK.due("3: no paper first", x.task(paper, 0, 2, 99), -1);
        }
        CHECK.due("3: no task 4", x.task(0, 4, 0, 0), -1);
        CHECK.due("3: no task -1", x.task(0, -1, 1, 0), -1);
        CHECK.due("3: no task first", x.task(0, 4, 2, 99), -1);
        CHECK.due("3: weight unchanged", x.task(7, 3, 0, 1), 0);
        CHECK.due("3: cost unchanged", x.task(7, 3, 1, 1), 0);
    }

    private static void hours() {
        NamesInRow x = new NamesInRow();
        CHECK.due("4: hours(7, 3, 6, 9)", x.hours(7, 3, 6, 9), 0);
        CHECK.due("4: hours(7, 3, 6, 0)", x.hours(7, 3, 6, 0), 9);
        CHECK.due("4: hours 10", x.hours(7, 3, 6, 10), -2);
        CHECK.due("4: hours -1", x.hours(7, 3, 6, -1), -2);
        CHECK.due("4: no task 4", x.hours(7, 4, 6, 1), -1);
        CHECK.due("4: no task -1", x.hours(7, -1, 6, 1), -1);
        for (int paper : NO_PAPER) {
            CHECK.due("4: no paper", x.hours(paper, 0, 0, 0), -1);
            CHECK.due("4: no paper first", x.hours(paper, 0, 0, 10), -1);
        }
        for (int person : NO_PERSON) {
            CHECK.due("4: no person", x.hours(0, 0, person, 0), -1);
            CHECK.due("4: no person first", x.hours(0, 0, person, 10), -1);
        }
        CHECK.due("4: hours unchanged", x.hours(7, 3, 6, 1), 0);
    }

    private static void name() {
        NamesInRow x = new NamesInRow();
        for (int i = 0; i < 7; i++) {
            CHECK.due("5: name", x.name(7, 6 - i), i + 1);
            CHECK.due("5: name again", x.name(7, 6 - i), -3);
            CHECK.due("5: behind the others", x.at(7, i), 6 - i);
        }
        for (int paper : NO_PAPER) {
            CHECK.due("5: no paper", x.name(paper, 0), -1);
        }
        for (int person : NO_PERSON) {
            CHECK.due("5: no person", x.name(7, person), -1);
        }
        CHECK.due("5: how many", x.count(1), 7);
    }

    private static void unname() {
        NamesInRow x = new NamesInRow();
        CHECK.due("6: of none", x.unname(0), 0);
        x.name(0, 3);
        x.name(0, 4);
        x.name(1, 3);
        CHECK.due("6: of two", x.unname(0), 2);
        CHECK.due("6: empty", x.at(0, 0), NamesInRow.NONE);
        CHECK.due("6: another paper", x.at(1, 0), 3);
        CHECK.due("6: named anew", x.name(0, 4), 1);
        for (int paper : NO_PAPER) {
            CHECK.due("6: no paper", x.unname(paper), -1);
        }
    }

    private static void at() {
        NamesInRow x = new NamesInRow();
        x.name(2, 5);
        x.name(2, 0);
        CHECK.due("7: at(2, 0)", x.at(2, 0), 5);
        CHECK.due("7: at(2, 1)", x.at(2, 1), 0);
        CHECK.due("7: at(2, 2)", x.at(2, 2), NamesInRow.NONE);
        CHECK.due("7: at(2, 7)", x.at(2, 7), NamesInRow.NONE);
        CHECK.due("7: at(2, -1)", x.at(2, -1), NamesInRow.NONE);
        CHECK.due("7: at far", x.at(2, Integer.MAX_VALUE), NamesInRow.NONE);
        CHECK.due("7: at far below", x.at(2, Integer.MIN_VALUE), NamesInRow.NONE);
        for (int paper : NO_PAPER) {
            CHECK.due("7: no paper", x.at(paper, 0), -1);
            CHECK.due("7: no paper, no place", x.at(paper, -1), -1);
        }
    }

    private static void swap() {
        NamesInRow x = new NamesInRow();
        CHECK.due("8: in an empty row", x.swap(0, 0), -2);
        x.name(0, 5);
        CHECK.due("8: of one alone", x.swap(0, 0), -2);
        x.name(0, 2);
        x.name(0, 4);
        CHECK.due("8: swap(0, 1)", x.swap(0, 1), 4);
        CHECK.due("8: swap(0, 0)", x.swap(0, 0), 4);
        CHECK.due("8: first", x.at(0, 0), 4);
        CHECK.due("8: second", x.at(0, 1), 5);
        CHECK.due("8: third", x.at(0, 2), 2);
        CHECK.due("8: the last has none behind it", x.swap(0, 2), -2);
        CHECK.due("8: -1", x.swap(0, -1), -2);
        CHECK.due("8: far", x.swap(0, Integer.MAX_VALUE), -2);
        CHECK.due("8: far below", x.swap(0, Integer.MIN_VALUE), -2);
        CHECK.due("8: third unchanged", x.at(0, 2), 2);
        for (int paper : NO_PAPER) {
            CHECK.due("8: no paper", x.swap(paper, 0), -1);
            CHECK.due("8: no paper, no place", x.swap(paper, -1), -1);
        }
    }

    private static void share() {
        NamesInRow x = new NamesInRow();
        fraction(x, 0, 0, 0, 1);
        x.hours(0, 0, 0, 2);
        x.hours(0, 0, 1, 4);
        fraction(x, 0, 0, 1, 3);
        fraction(x, 0, 1, 2, 3);
        fraction(x, 0, 2, 0, 1);
        // TASK 1 has HOURS and no WEIGHT, TASK 2 a WEIGHT and no HOURS: neither is DONE.
        x.hours(0, 1, 2, 9);
        x.task(0, 2, 0, 9);
        fraction(x, 0, 0, 1, 3);
        fraction(x, 0, 2, 0, 1);
        // WEIGHT 3 of TASK 1 and 1 of TASK 0.
        x.task(0, 1, 0, 3);
        fraction(x, 0, 0, 1, 12);
        fraction(x, 0, 1, 1, 6);
        fraction(x, 0, 2, 3, 4);
        x.task(0, 0, 0, 0);
        fraction(x, 0, 0, 0, 1);
        fraction(x, 0, 2, 1, 1);
        x.hours(0, 1, 2, 0);
        fraction(x, 0, 2, 0, 1);
        fraction(x, 1, 2, 0, 1);
        for (int paper : NO_PAPER) {
            CHECK.dueFraction("9: no paper", x.share(paper, 0, true), x.share(paper, 0, false), -1, -1);
        }
        for (int person : NO_PERSON) {
            CHECK.dueFraction("9: no person", x.share(0, person, true), x.share(0, person, false), -1, -1);
        }
    }

    private static void shareOfFourTasks() {
        NamesInRow x = new NamesInRow();
        int[] all = {63, 62, 61, 59};
        for (int task = 0; task < 4; task++) {
            x.task(7, task, 0, 9);
            for (int person = 0; person < 7; person++) {
                x.hours(7, task, person, person == 6 ? all[task] - 54 : 9);
            }
        }
        // (9/63 + 9/62 + 9/61 + 9/59) by 4, and (9/63 + 8/62 + 7/61 + 5/59) by 4, in least terms.
        fraction(x, 7, 0, 918595, 6247864);
        fraction(x, 7, 6, 368147, 3123932);
    }

    private static void fraction(NamesInRow x, int paper, int person, long upper, long lower) {
        CHECK.dueFraction("9: share(" + paper + ", " + person + ")", x.share(paper, person, true),
                x.share(paper, person, false), upper, lower);
    }

    private static void gifts() {
        NamesInRow x = new NamesInRow();
        CHECK.due("10: no gifts", x.gifts(0, false), 0);
        CHECK.due("10: no ghosts", x.gifts(0, true), 0);
        x.name(0, 5);
        x.name(0, 1);
        x.name(0, 3);
        CHECK.due("10: nothing is done, so all are gifts", x.gifts(0, false), 3);
        CHECK.due("11: by place", x.gift(0, false, 0), 5);
        CHECK.due("11: by place", x.gift(0, false, 1), 1);
        CHECK.due("11: by place", x.gift(0, false, 2), 3);
        x.hours(0, 0, 1, 1);
        x.hours(0, 0, 6, 1);
        x.hours(0, 0, 2, 1);
        x.hours(0, 1, 4, 9);
        CHECK.due("10: gifts", x.gifts(0, false), 2);
        CHECK.due("10: ghosts", x.gifts(0, true), 2);
        CHECK.due("11: gift 0", x.gift(0, false, 0), 5);
        CHECK.due("11: gift 1", x.gift(0, false, 1), 3);
        CHECK.due("11: gift 2", x.gift(0, false, 2), NamesInRow.NONE);
        CHECK.due("11: gift -1", x.gift(0, false, -1), NamesInRow.NONE);
        CHECK.due("11: ghost 0", x.gift(0, true, 0), 2);
        CHECK.due("11: ghost 1", x.gift(0, true, 1), 6);
        CHECK.due("11: ghost 2", x.gift(0, true, 2), NamesInRow.NONE);
        CHECK.due("11: ghost far", x.gift(0, true, Integer.MAX_VALUE), NamesInRow.NONE);
        for (int paper : NO_PAPER) {
            CHECK.due("10: no paper", x.gifts(paper, false), -1);
            CHECK.due("10: no paper", x.gifts(paper, true), -1);
            CHECK.due("11: no paper", x.gift(paper, false, 0), -1);
            CHECK.due("11: no paper", x.gift(paper, true, -1), -1);
        }
    }
}
