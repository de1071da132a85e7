/** Edges of what papers are, and of promises 1 to 11. */
final class PapersEdges {
    private static final int NONE = NamesInRow.NONE, UNKNOWN = NamesInRow.UNKNOWN;
    private static final int OUTSIDE = NamesInRow.OUTSIDE, STATE = NamesInRow.STATE;
    private final Sentences doc;

    PapersEdges(Sentences doc) {
        this.doc = doc;
    }

    void run() {
        none();
        fractions();
        people();
        papers();
        trades();
        tasks();
        weights();
        hoursOfEach();
        rows();
        doneTasks();
        shares();
        giftsAndGhosts();
        newObject();
        trade();
        task();
        hours();
        name();
        unname();
        at();
        swap();
        share();
        gifts();
        gift();
    }

    private void none() {
        doc.term("NONE is -9.");
        doc.due("NONE", NONE, -9);
        NamesInRow x = new NamesInRow();
        doc.due("at", x.at(0, 0), -9);
        doc.due("gift", x.gift(0, false, 0), -9);
        doc.due("room", x.room(0, -9), -9);
        doc.due("due", x.due(0, 0, 0), -9);
        doc.due("rank", x.rank(0, 7), -9);
        doc.due("peaceAt", x.peaceAt(0, 0), -9);
        doc.due("next", x.next(0, -1, 0), -9);
    }

    private void fractions() {
        doc.term("FRACTIONS are told above (upper = true), below (1 and more), in least terms;");
        NamesInRow x = Build.row(Build.hours(new NamesInRow(), 0, 0, 9, 3, 0), 0, 0, 1, 2);
        doc.fraction("9 of 12", x.share(0, 0, true), x.share(0, 0, false), 3, 4);
        doc.fraction("3 of 12", x.share(0, 1, true), x.share(0, 1, false), 1, 4);
        doc.fraction("nothing", x.share(0, 2, true), x.share(0, 2, false), 0, 1);
        doc.fraction("a half of a half", x.worth(0, 2, 1, true), x.worth(0, 2, 1, false), 1, 4);
        doc.fraction("750 thousandths", x.worth(0, 4, 0, true), x.worth(0, 4, 0, false), 3, 4);
        doc.fraction("a whole number", x.score(0, 0, true), x.score(0, 0, false), 1, 1);
        Build.claims(x, 0, 100, 50);
        doc.fraction("200 by 3", x.gets(0, 0, 0, true), x.gets(0, 0, 0, false), 200, 3);
        doc.fraction("50 of 100", x.gets(0, 0, 1, true), x.gets(0, 0, 1, false), 50, 1);
        doc.fraction("unfair", x.unfair(0, 0, true), x.unfair(0, 0, false), 50, 3);
        doc.term("refusals of them are told likewise.");
        for (int paper : Build.NO_PAPER) {
            doc.fraction("share", x.share(paper, 0, true), x.share(paper, 0, false), UNKNOWN, UNKNOWN);
            doc.fraction("worth", x.worth(paper, 0, 0, true), x.worth(paper, 0, 0, false), UNKNOWN, UNKNOWN);
            doc.fraction("gets", x.gets(paper, 0, 0, true), x.gets(paper, 0, 0, false), UNKNOWN, UNKNOWN);
            doc.fraction("unfair", x.unfair(paper, 0, true), x.unfair(paper, 0, false), UNKNOWN, UNKNOWN);
        }
        doc.fraction("score", x.score(7, 0, true), x.score(7, 0, false), UNKNOWN, UNKNOWN);
        doc.fraction("no way to score", x.score(0, 5, true), x.score(0, 5, false), OUTSIDE, OUTSIDE);
        doc.fraction("no way", x.worth(0, 5, 0, true), x.worth(0, 5, 0, false), OUTSIDE, OUTSIDE);
        doc.fraction("no rule to get", x.gets(0, 0, 3, true), x.gets(0, 0, 3, false), OUTSIDE, OUTSIDE);
        doc.fraction("no rule", x.unfair(0, 3, true), x.unfair(0, 3, false), OUTSIDE, OUTSIDE);
    }

    private void people() {
        doc.term("PEOPLE 0 to 6.");
        NamesInRow x = new NamesInRow();
        for (int person = 0; person <= 6; person++) {
            doc.due("name(0, " + person + ")", x.name(0, person), person + 1);
        }
        doc.due("name(0, -1)", x.name(0, -1), UNKNOWN);
        doc.due("name(0, 7)", x.name(0, 7), UNKNOWN);
        doc.due("bear(6, 0)", x.bear(6, 0), 60);
        doc.due("bear(7, 0)", x.bear(7, 0), UNKNOWN);
    }

    private void papers() {
        doc.term("PAPERS 0 to 7 have");
        NamesInRow x = new NamesInRow();
        for (int paper = 0; paper <= 7; paper++) {
            doc.due("name(" + paper + ", ..)", x.name(paper, paper % 7), 1);
        }
        for (int paper = 0; paper <= 7; paper++) {
            doc.due("at(" + paper + ", 0)", x.at(paper, 0), paper % 7);
        }
        doc.due("name(-1, 0)", x.name(-1, 0), UNKNOWN);
        doc.due("name(8, 0)", x.name(8, 0), UNKNOWN);
        doc.due("papers with a row", x.count(0), 8);
    }

    private void trades() {
        doc.term("a TRADE (0 to 2; 0 at first),");
        NamesInRow x = new NamesInRow();
        for (int paper = 0; paper <= 7; paper++) {
            doc.due("at first", x.trade(paper, 2), 0);
            doc.due("3", x.trade(paper, 3), OUTSIDE);
            doc.due("-1", x.trade(paper, -1), OUTSIDE);
            doc.due("after 2", x.trade(paper, 0), 2);
            doc.due("after 0", x.trade(paper, 1), 0);
            doc.due("after 1", x.trade(paper, 1), 1);
        }
    }

    private void tasks() {
        doc.term("TASKS 0 to 3");
        NamesInRow x = new NamesInRow();
        for (int task = 0; task <= 3; task++) {
            doc.due("hours(0, " + task + ", 0, 1)", x.hours(0, task, 0, 1), 0);
            doc.due("task(0, " + task + ", 1, 7)", x.task(0, task, 1, 7), 1);
        }
        for (int task : new int[] {-1, 4, Integer.MIN_VALUE, Integer.MAX_VALUE, 256, NONE}) {
            doc.due("hours in no task", x.hours(0, task, 0, 1), UNKNOWN);
            doc.due("weight of no task", x.task(0, task, 0, 1), UNKNOWN);
            doc.due("cost of no task", x.task(0, task, 1, 1), UNKNOWN);
        }
    }

    private void weights() {
        doc.term("with a WEIGHT (0 to 9; 1 of TASK 0 and 0 of the others at first)");
        NamesInRow x = new NamesInRow();
        for (int paper = 0; paper <= 7; paper++) {
            for (int task = 0; task <= 3; task++) {
                doc.due("at first", x.task(paper, task, 0, 9), task == 0 ? 1 : 0);
                doc.due("10", x.task(paper, task, 0, 10), OUTSIDE);
                doc.due("-1", x.task(paper, task, 0, -1), OUTSIDE);
                doc.due("after 9", x.task(paper, task, 0, 0), 9);
                doc.due("after 0", x.task(paper, task, 0, 0), 0);
            }
        }
    }

    private void hoursOfEach() {
        doc.term("and HOURS of each PERSON in each (0 to 9; 0 at first),");
        for (int paper = 0; paper <= 7; paper++) {
            NamesInRow x = new NamesInRow();
            for (int task = 0; task <= 3; task++) {
                for (int person = 0; person <= 6; person++) {
                    doc.due("at first", x.hours(paper, task, person, 9), 0);
                    doc.due("10", x.hours(paper, task, person, 10), OUTSIDE);
                    doc.due("-1", x.hours(paper, task, person, -1), OUTSIDE);
                    doc.due("after 9", x.hours(paper, task, person, (person + task) % 10), 9);
                }
            }
            for (int task = 0; task <= 3; task++) {
                for (int person = 0; person <= 6; person++) {
                    doc.due("of each in each", x.hours(paper, task, person, 0), (person + task) % 10);
                }
            }
        }
    }

    private void rows() {
        doc.term("and a ROW: PEOPLE in an order, none twice (none at first).");
        NamesInRow x = new NamesInRow();
        for (int paper = 0; paper <= 7; paper++) {
            doc.due("at first", x.at(paper, 0), NONE);
            doc.due("none stood there", x.unname(paper), 0);
        }
        Build.row(x, 5, 6, 2, 4);
        doc.due("the second again", x.name(5, 2), STATE);
        doc.due("the last again", x.name(5, 4), STATE);
        doc.due("the first again", x.name(5, 6), STATE);
        doc.due("one more", x.name(5, 0), 4);
        int[] row = {6, 2, 4, 0, NONE, NONE, NONE};
        for (int i = 0; i < 7; i++) {
            doc.due("place " + i, x.at(5, i), row[i]);
        }
    }

    private void doneTasks() {
        doc.term("A TASK is DONE, if its WEIGHT is above 0 and someone has HOURS in it.");
        for (int task = 0; task <= 3; task++) {
            for (int person = 0; person <= 6; person++) {
                NamesInRow x = Build.weights(new NamesInRow(), 7, 0, 0, 0, 0);
                x.hours(7, task, person, 9);
                doc.due("weight 0, 9 hours", x.count(2), 0);
                x.task(7, task, 0, 1);
                doc.due("weight 1, 9 hours", x.count(2), 1);
                x.hours(7, task, person, 1);
                doc.due("weight 1, 1 hour", x.count(2), 1);
                x.hours(7, task, person, 0);
                doc.due("weight 1, 0 hours", x.count(2), 0);
                x.task(7, task, 0, 9);
                doc.due("weight 9, 0 hours", x.count(2), 0);
            }
        }
    }

    private void shares() {
        doc.term("THE SHARE of a PERSON in a PAPER: of all TASKS that are DONE WEIGHT times its HOURS by all HOURS in that TASK, "
                + "together, by WEIGHTS of all TASKS that are DONE (0, if none is).");
        NamesInRow x = new NamesInRow();
        shareIs(x, 7, 6, 0, 1);
        x.task(7, 0, 0, 0);
        x.hours(7, 0, 6, 9);
        shareIs(x, 7, 6, 0, 1);
        x.task(7, 0, 0, 1);
        shareIs(x, 7, 6, 1, 1);
        shareIs(x, 7, 5, 0, 1);
        x.task(7, 0, 0, 9);
        shareIs(x, 7, 6, 1, 1);
        x.task(7, 3, 0, 9);
        shareIs(x, 7, 6, 1, 1);
        x.hours(7, 3, 5, 1);
        shareIs(x, 7, 6, 1, 2);
        shareIs(x, 7, 5, 1, 2);
        x.task(7, 0, 0, 1);
        shareIs(x, 7, 6, 1, 10);
        shareIs(x, 7, 5, 9, 10);
        NamesInRow even = Build.weights(new NamesInRow(), 0, 9, 9, 9, 9);
        for (int task = 0; task <= 3; task++) {
            Build.hours(even, 0, task, 9, 9, 9, 9, 9, 9, 9);
        }
        for (int person = 0; person <= 6; person++) {
            shareIs(even, 0, person, 1, 7);
        }
        // The least that there is: an hour of 55 in a TASK of WEIGHT 1 of 28.
        shareIs(leastShare(), 0, 0, 1, 1540);
        // (9 * 9/61 + 8 * 8/59 + 9 * 7/57 + 7 * 6/53) by 33.
        NamesInRow odd = Build.weights(new NamesInRow(), 0, 9, 8, 9, 7);
        Build.hours(odd, 0, 0, 9, 9, 9, 9, 9, 9, 7);
        Build.hours(odd, 0, 1, 8, 9, 9, 9, 9, 9, 6);
        Build.hours(odd, 0, 2, 7, 9, 9, 9, 9, 9, 5);
        Build.hours(odd, 0, 3, 6, 9, 9, 9, 9, 9, 2);
        shareIs(odd, 0, 0, 15621470, 119598369);
    }

    private static NamesInRow leastShare() {
        NamesInRow x = Build.weights(new NamesInRow(), 0, 1, 9, 9, 9);
        Build.hours(x, 0, 0, 1, 9, 9, 9, 9, 9, 9);
        for (int task = 1; task <= 3; task++) {
            x.hours(0, task, 6, 1);
        }
        return x;
    }

    private void shareIs(NamesInRow x, int paper, int person, long upper, long lower) {
        doc.fraction("share(" + paper + ", " + person + ")", x.share(paper, person, true), x.share(paper, person, false), upper, lower);
    }

    private void giftsAndGhosts() {
        doc.term("A GIFT: a PERSON in the ROW whose SHARE is 0.");
        NamesInRow x = leastShare();
        doc.due("nobody stands there", x.gifts(0, false), 0);
        x.name(0, 0);
        doc.due("the least share is no gift", x.gifts(0, false), 0);
        x.hours(0, 0, 0, 0);
        doc.due("a share of 0 is one", x.gifts(0, false), 1);
        doc.term("A GHOST: a PERSON not in the ROW whose SHARE is above 0.");
        NamesInRow y = leastShare();
        doc.due("all seven, one with the least share", y.gifts(0, true), 7);
        doc.due("that one", y.gift(0, true, 0), 0);
        y.name(0, 0);
        doc.due("who stands there is none", y.gifts(0, true), 6);
        y.unname(0);
        y.hours(0, 0, 0, 0);
        doc.due("a share of 0 is none", y.gifts(0, true), 6);
        doc.due("the first that is left", y.gift(0, true, 0), 1);
    }

    private void newObject() {
        doc.promise(1, "Empty PAPERS.");
        NamesInRow x = new NamesInRow();
        for (int paper = 0; paper <= 7; paper++) {
            doc.due("unname", x.unname(paper), 0);
            doc.due("at", x.at(paper, 0), NONE);
            doc.due("gifts", x.gifts(paper, false), 0);
            doc.due("ghosts", x.gifts(paper, true), 0);
            doc.due("fits", x.fits(paper), 15);
            doc.due("over", x.over(paper), 900);
            doc.due("fairest", x.fairest(paper), 0);
            doc.due("quarrel", x.quarrel(paper, true), 0);
            doc.due("settle", x.settle(paper), 0);
            doc.due("keep", x.keep(paper, 0), 0);
            doc.due("swap", x.swap(paper, 0), OUTSIDE);
            for (int person = 0; person <= 6; person++) {
                shareIs(x, paper, person, 0, 1);
            }
        }
        for (int what = 0; what <= 3; what++) {
            doc.due("count(" + what + ")", x.count(what), 0);
        }
        // What one object is told, another does not know.
        NamesInRow y = Build.row(new NamesInRow(), 0, 3);
        doc.due("another object", new NamesInRow().at(0, 0), NONE);
        doc.due("this object", y.at(0, 0), 3);
    }

    private void trade() {
        doc.promise(2, "TRADE of a PAPER: what it was.");
        NamesInRow x = new NamesInRow();
        doc.due("0, as at first", x.trade(0, 0), 0);
        doc.due("the first paper", x.trade(0, 2), 0);
        doc.due("the last paper", x.trade(7, 1), 0);
        doc.due("the first paper again", x.trade(0, 1), 2);
        doc.due("the last paper again", x.trade(7, 0), 1);
        doc.promise(2, "UNKNOWN; OUTSIDE.");
        for (int paper : Build.NO_PAPER) {
            doc.due("no paper", x.trade(paper, 0), UNKNOWN);
            doc.due("no paper, no trade", x.trade(paper, 3), UNKNOWN);
        }
        for (int v : new int[] {-1, 3, NONE, Integer.MIN_VALUE, Integer.MAX_VALUE, 256}) {
            doc.due("no trade", x.trade(0, v), OUTSIDE);
        }
        doc.due("unchanged", x.trade(0, 0), 1);
    }

    private void task() {
        doc.promise(3, "WEIGHT (what = 0), COST (1) of a TASK: what it was.");
        NamesInRow x = new NamesInRow();
        doc.due("weight 9", x.task(0, 0, 0, 9), 1);
        doc.due("cost 50", x.task(0, 0, 1, 50), 1);
        doc.due("weight 0", x.task(0, 0, 0, 0), 9);
        doc.due("cost 0", x.task(0, 0, 1, 0), 50);
        doc.due("cost 10, more than a weight can be", x.task(7, 3, 1, 10), 1);
        doc.due("the weight is another number", x.task(7, 3, 0, 5), 0);
        doc.due("after cost 10", x.task(7, 3, 1, 1), 10);
        doc.promise(3, "UNKNOWN; OUTSIDE.");
        for (int paper : Build.NO_PAPER) {
            doc.due("no paper", x.task(paper, 0, 0, 0), UNKNOWN);
            doc.due("no paper, no task", x.task(paper, 4, 0, 0), UNKNOWN);
            doc.due("no paper, nothing as told", x.task(paper, 4, 2, 51), UNKNOWN);
        }
        doc.due("no task", x.task(0, 4, 1, 0), UNKNOWN);
        doc.due("no task, neither weight nor cost", x.task(0, -1, 2, 0), UNKNOWN);
        doc.due("no task, too heavy", x.task(0, 4, 0, 10), UNKNOWN);
        for (int what : new int[] {-1, 2, NONE, Integer.MIN_VALUE, Integer.MAX_VALUE, 256}) {
            doc.due("neither weight nor cost", x.task(7, 3, what, 0), OUTSIDE);
            doc.due("neither weight nor cost, too much", x.task(7, 3, what, 51), OUTSIDE);
            doc.due("neither weight nor cost, too little", x.task(7, 3, what, -1), OUTSIDE);
        }
        doc.due("weight 10", x.task(7, 3, 0, 10), OUTSIDE);
        doc.due("weight 50", x.task(7, 3, 0, 50), OUTSIDE);
        doc.due("weight -1", x.task(7, 3, 0, -1), OUTSIDE);
        doc.due("cost 51", x.task(7, 3, 1, 51), OUTSIDE);
        doc.due("cost -1", x.task(7, 3, 1, -1), OUTSIDE);
        doc.due("weight unchanged", x.task(7, 3, 0, 0), 5);
        doc.due("cost unchanged", x.task(7, 3, 1, 0), 1);
    }

    private void hours() {
        doc.promise(4, "HOURS: what they were.");
        NamesInRow x = new NamesInRow();
        doc.due("first of all", x.hours(0, 0, 0, 9), 0);
        doc.due("last of all", x.hours(7, 3, 6, 1), 0);
        doc.due("first of all again", x.hours(0, 0, 0, 0), 9);
        doc.due("last of all again", x.hours(7, 3, 6, 9), 1);
        doc.promise(4, "UNKNOWN; OUTSIDE.");
        for (int wrong : new int[] {-1, 8, NONE, Integer.MIN_VALUE, Integer.MAX_VALUE, 256}) {
            doc.due("no paper", x.hours(wrong, 0, 0, 0), UNKNOWN);
            doc.due("no task", x.hours(7, wrong, 0, 0), UNKNOWN);
            doc.due("no person", x.hours(7, 0, wrong, 0), UNKNOWN);
            doc.due("no paper, too many hours", x.hours(wrong, 0, 0, 10), UNKNOWN);
            doc.due("no task, too many hours", x.hours(7, wrong, 0, 10), UNKNOWN);
            doc.due("no person, too many hours", x.hours(7, 0, wrong, 10), UNKNOWN);
            doc.due("nothing as told", x.hours(wrong, wrong, wrong, -1), UNKNOWN);
        }
        doc.due("task 4", x.hours(7, 4, 6, 0), UNKNOWN);
        doc.due("person 7", x.hours(7, 3, 7, 0), UNKNOWN);
        doc.due("10 hours", x.hours(7, 3, 6, 10), OUTSIDE);
        doc.due("-1 hours", x.hours(7, 3, 6, -1), OUTSIDE);
        doc.due("unchanged", x.hours(7, 3, 6, 0), 9);
    }

    private void name() {
        doc.promise(5, "A PERSON comes behind a ROW: how many stand there.");
        NamesInRow x = new NamesInRow();
        for (int i = 0; i < 7; i++) {
            doc.due("behind " + i, x.name(7, (i * 3 + 6) % 7), i + 1);
            doc.due("the place behind " + i, x.at(7, i), (i * 3 + 6) % 7);
        }
        doc.due("the same person on another paper", x.name(6, 6), 1);
        doc.promise(5, "UNKNOWN; STATE: it stands there.");
        for (int person = 0; person <= 6; person++) {
            doc.due("in a row of all seven", x.name(7, person), STATE);
        }
        for (int person : Build.NO_PERSON) {
            doc.due("no person, a row of all seven", x.name(7, person), UNKNOWN);
            doc.due("no person, an empty row", x.name(0, person), UNKNOWN);
        }
        for (int paper : Build.NO_PAPER) {
            doc.due("no paper", x.name(paper, 6), UNKNOWN);
        }
        doc.due("the empty row is empty", x.at(0, 0), NONE);
        doc.due("seven stand there", x.unname(7), 7);
        doc.due("it stands there no more", x.name(7, 6), 1);
        doc.due("it stands there again", x.name(7, 6), STATE);
    }

    private void unname() {
        doc.promise(6, "A ROW is empty: how many stood there.");
        NamesInRow x = Build.row(new NamesInRow(), 0, 0, 1, 2, 3, 4, 5, 6);
        Build.row(x, 7, 4);
        doc.due("of all seven", x.unname(0), 7);
        doc.due("of none", x.unname(0), 0);
        for (int i = 0; i < 7; i++) {
            doc.due("place " + i, x.at(0, i), NONE);
        }
        doc.due("of one", x.unname(7), 1);
        doc.promise(6, "UNKNOWN.");
        x.name(7, 4);
        x.name(0, 2);
        for (int paper : Build.NO_PAPER) {
            doc.due("no paper", x.unname(paper), UNKNOWN);
        }
        doc.due("unchanged", x.at(7, 0), 4);
        doc.due("unchanged", x.at(0, 0), 2);
    }

    private void at() {
        doc.promise(7, "The PERSON at the i-th place (from 0) of a ROW; NONE.");
        NamesInRow x = Build.row(new NamesInRow(), 7, 6, 5, 4, 3, 2, 1, 0);
        for (int i = 0; i < 7; i++) {
            doc.due("place " + i + " of seven", x.at(7, i), 6 - i);
            doc.due("place " + i + " of none", x.at(0, i), NONE);
        }
        for (int place : Build.NEVER_A_PLACE) {
            doc.due("no place of seven", x.at(7, place), NONE);
            doc.due("no place of none", x.at(0, place), NONE);
        }
        Build.row(x, 7, 3);
        doc.due("the only one", x.at(7, 0), 3);
        doc.due("behind the only one", x.at(7, 1), NONE);
        doc.promise(7, "UNKNOWN: paper.");
        for (int paper : Build.NO_PAPER) {
            doc.due("no paper", x.at(paper, 0), UNKNOWN);
            doc.due("no paper, no place", x.at(paper, -1), UNKNOWN);
            doc.due("no paper, no place", x.at(paper, 7), UNKNOWN);
        }
    }

    private void swap() {
        doc.promise(8, "Two places of a ROW next to one another are changed about (i and the one behind it).");
        for (int i = 0; i < 6; i++) {
            NamesInRow x = Build.row(new NamesInRow(), 7, 6, 5, 4, 3, 2, 1, 0);
            x.swap(7, i);
            for (int place = 0; place < 7; place++) {
                int from = place == i ? i + 1 : place == i + 1 ? i : place;
                doc.due("place " + place + " after " + i, x.at(7, place), 6 - from);
            }
        }
        doc.promise(8, "UNKNOWN: paper; OUTSIDE: there are no such; else the PERSON who comes ahead.");
        NamesInRow y = new NamesInRow();
        for (int size = 0; size <= 7; size++) {
            for (int i = 0; i < size - 1; i++) {
                int behind = y.at(7, i + 1);
                doc.due("place " + i + " of " + size, y.swap(7, i), behind);
                y.swap(7, i);
            }
            doc.due("the last of " + size, y.swap(7, size - 1), OUTSIDE);
            doc.due("behind the last of " + size, y.swap(7, size), OUTSIDE);
            for (int place : Build.NEVER_A_PLACE) {
                doc.due("no place of " + size, y.swap(7, place), OUTSIDE);
            }
            y.name(7, size);
        }
        for (int i = 0; i < 7; i++) {
            doc.due("unchanged", y.at(7, i), i);
        }
        for (int paper : Build.NO_PAPER) {
            doc.due("no paper", y.swap(paper, 0), UNKNOWN);
            doc.due("no paper, no place", y.swap(paper, -1), UNKNOWN);
            doc.due("no paper, no place", y.swap(paper, 7), UNKNOWN);
        }
    }

    private void share() {
        doc.promise(9, "THE SHARE.");
        NamesInRow x = Build.hours(new NamesInRow(), 7, 0, 1, 0, 0, 0, 0, 0, 8);
        shareIs(x, 7, 0, 1, 9);
        shareIs(x, 7, 6, 8, 9);
        shareIs(x, 7, 3, 0, 1);
        shareIs(x, 0, 6, 0, 1);
        // In the ROW or not, on a PAPER of whatever TRADE.
        Build.row(x, 7, 6);
        x.trade(7, 2);
        shareIs(x, 7, 0, 1, 9);
        shareIs(x, 7, 6, 8, 9);
        doc.promise(9, "UNKNOWN.");
        for (int wrong : new int[] {-1, NONE, 8, Integer.MIN_VALUE, Integer.MAX_VALUE, 256}) {
            shareIs(x, wrong, 0, UNKNOWN, UNKNOWN);
            shareIs(x, 7, wrong, UNKNOWN, UNKNOWN);
            shareIs(x, wrong, wrong, UNKNOWN, UNKNOWN);
        }
        shareIs(x, 7, 7, UNKNOWN, UNKNOWN);
    }

    private void gifts() {
        doc.promise(10, "How many GIFTS a PAPER has (ghosts = false), GHOSTS.");
        NamesInRow x = Build.row(new NamesInRow(), 7, 0, 1, 2, 3, 4, 5, 6);
        doc.due("gifts: all seven", x.gifts(7, false), 7);
        doc.due("ghosts: none", x.gifts(7, true), 0);
        Build.hours(x, 7, 0, 1, 1, 1, 1, 1, 1, 1);
        doc.due("gifts: none of seven", x.gifts(7, false), 0);
        doc.due("ghosts: none of seven", x.gifts(7, true), 0);
        x.unname(7);
        doc.due("gifts of an empty row", x.gifts(7, false), 0);
        doc.due("ghosts of an empty row", x.gifts(7, true), 7);
        x.task(7, 0, 0, 0);
        doc.due("ghosts, if nothing is done", x.gifts(7, true), 0);
        doc.promise(10, "UNKNOWN.");
        for (int paper : Build.NO_PAPER) {
            doc.due("no paper", x.gifts(paper, false), UNKNOWN);
            doc.due("no paper", x.gifts(paper, true), UNKNOWN);
        }
    }

    private void gift() {
        doc.promise(11, "The i-th GIFT by its place, the i-th GHOST by number; NONE.");
        NamesInRow x = Build.row(new NamesInRow(), 7, 6, 5, 4, 3, 2, 1, 0);
        for (int i = 0; i < 7; i++) {
            doc.due("gift " + i + " of seven", x.gift(7, false, i), 6 - i);
            doc.due("ghost " + i + " of none", x.gift(7, true, i), NONE);
            doc.due("gift " + i + " of an empty row", x.gift(0, false, i), NONE);
        }
        Build.row(x, 7);
        Build.hours(x, 7, 0, 1, 2, 3, 4, 5, 6, 7);
        for (int i = 0; i < 7; i++) {
            doc.due("ghost " + i + " of seven", x.gift(7, true, i), i);
        }
        Build.row(x, 7, 5, 0, 2);
        x.hours(7, 0, 5, 0);
        x.hours(7, 0, 2, 0);
        doc.due("gift 0", x.gift(7, false, 0), 5);
        doc.due("gift 1", x.gift(7, false, 1), 2);
        doc.due("gift 2", x.gift(7, false, 2), NONE);
        doc.due("ghost 0", x.gift(7, true, 0), 1);
        doc.due("ghost 3", x.gift(7, true, 3), 6);
        doc.due("ghost 4", x.gift(7, true, 4), NONE);
        for (int place : Build.NEVER_A_PLACE) {
            doc.due("no such gift", x.gift(7, false, place), NONE);
            doc.due("no such ghost", x.gift(7, true, place), NONE);
        }
        doc.promise(11, "UNKNOWN.");
        for (int paper : Build.NO_PAPER) {
            doc.due("no paper", x.gift(paper, false, 0), UNKNOWN);
            doc.due("no paper, no place", x.gift(paper, false, -1), UNKNOWN);
            doc.due("no paper", x.gift(paper, true, 0), UNKNOWN);
            doc.due("no paper, no place", x.gift(paper, true, 7), UNKNOWN);
        }
    }
}
