/** Edges of what people say they did, and of promises 21 to 25. */
final class ClaimsEdges {
    private static final int NONE = NamesInRow.NONE, UNKNOWN = NamesInRow.UNKNOWN, OUTSIDE = NamesInRow.OUTSIDE;
    private static final int PARTS = 0, CAPS = 1, LOSSES = 2;
    private static final int[] NO_RULE = {-1, 3, NONE, Integer.MIN_VALUE, Integer.MAX_VALUE, 256};
    private final Sentences doc;

    ClaimsEdges(Sentences doc) {
        this.doc = doc;
    }

    void run() {
        claims();
        overOfAll();
        parts();
        caps();
        losses();
        notOver();
        unfairOfAll();
        theFairest();
        claim();
        over();
        gets();
        unfair();
        fairest();
    }

    private static NamesInRow claiming(int... claims) {
        return Build.claims(new NamesInRow(), 7, claims);
    }

    private void getsIs(NamesInRow x, int paper, int person, int rule, long upper, long lower) {
        doc.fraction("over " + x.over(paper) + ", gets(" + paper + ", " + person + ", " + rule + ")",
                x.gets(paper, person, rule, true), x.gets(paper, person, rule, false), upper, lower);
    }

    private void unfairIs(NamesInRow x, int paper, int rule, long upper, long lower) {
        doc.fraction("over " + x.over(paper) + ", unfair(" + paper + ", " + rule + ")",
                x.unfair(paper, rule, true), x.unfair(paper, rule, false), upper, lower);
    }

    /** Upper and lower parts, in turn, of PEOPLE from 0 on; the others get nothing. */
    private void allGet(NamesInRow x, int rule, long... due) {
        for (int person = 0; person < 7; person++) {
            boolean isTold = 2 * person < due.length;
            getsIs(x, 7, person, rule, isTold ? due[2 * person] : 0, isTold ? due[2 * person + 1] : 1);
        }
    }

    private void claims() {
        doc.term("CLAIMS: what a PERSON says it did of a PAPER (0 to 100 in the hundred; 0 at first).");
        for (int paper = 0; paper <= 7; paper++) {
            NamesInRow x = new NamesInRow();
            for (int person = 0; person <= 6; person++) {
                doc.due("at first", x.claim(paper, person, 100), 0);
                doc.due("101", x.claim(paper, person, 101), OUTSIDE);
                doc.due("-1", x.claim(paper, person, -1), OUTSIDE);
                doc.due("after 100", x.claim(paper, person, person * 7 + paper), 100);
            }
            for (int person = 0; person <= 6; person++) {
                doc.due("of each", x.claim(paper, person, 0), person * 7 + paper);
            }
        }
    }

    private void overOfAll() {
        doc.term("OVER: all CLAIMS together less 100.");
        doc.due("none", claiming().over(7), 1000 - 100);
        doc.due("1 in all", claiming(0, 0, 0, 0, 0, 0, 1).over(7), 1000 - 99);
        doc.due("100 in all", claiming(40, 0, 0, 0, 0, 0, 60).over(7), 1000);
        doc.due("700 in all", claiming(100, 100, 100, 100, 100, 100, 100).over(7), 1000 + 600);
    }

    private void parts() {
        doc.term("If OVER is above 0, they are brought down to 100 by RULE 0 PARTS: each CLAIM times 100 by all CLAIMS;");
        allGet(claiming(50, 50), PARTS, 50, 1, 50, 1);
        allGet(claiming(50, 51), PARTS, 5000, 101, 5100, 101);
        allGet(claiming(0, 1, 100), PARTS, 0, 1, 100, 101, 10000, 101);
        allGet(claiming(100, 100, 100, 100, 100, 100, 100), PARTS, 100, 7, 100, 7, 100, 7, 100, 7, 100, 7, 100, 7, 100, 7);
        allGet(claiming(100, 100, 100, 100, 100, 100, 99), PARTS, 10000, 699, 10000, 699, 10000, 699, 10000, 699, 10000, 699,
                10000, 699, 3300, 233);
    }

    private void caps() {
        doc.term("1 CAPS: each what it says, but no more than a told same number for all;");
        allGet(claiming(50, 50), CAPS, 50, 1, 50, 1);
        allGet(claiming(50, 51), CAPS, 50, 1, 50, 1);
        allGet(claiming(1, 100), CAPS, 1, 1, 99, 1);
        allGet(claiming(0, 100, 1), CAPS, 0, 1, 99, 1, 1, 1);
        // The number is 25, and one says just that; a little less and a little more.
        allGet(claiming(100, 25, 100, 25), CAPS, 25, 1, 25, 1, 25, 1, 25, 1);
        allGet(claiming(100, 24, 100, 25), CAPS, 51, 2, 24, 1, 51, 2, 25, 1);
        allGet(claiming(100, 26, 100, 25), CAPS, 25, 1, 25, 1, 25, 1, 25, 1);
        allGet(claiming(100, 26, 100, 24), CAPS, 76, 3, 76, 3, 76, 3, 24, 1);
        allGet(claiming(100, 100, 100, 100, 100, 100, 100), CAPS, 100, 7, 100, 7, 100, 7, 100, 7, 100, 7, 100, 7, 100, 7);
        allGet(claiming(14, 15, 15, 15, 15, 15, 15), CAPS, 14, 1, 43, 3, 43, 3, 43, 3, 43, 3, 43, 3, 43, 3);
        allGet(claiming(10, 11, 12, 13, 14, 15, 26), CAPS, 10, 1, 11, 1, 12, 1, 13, 1, 14, 1, 15, 1, 25, 1);
    }

    private void losses() {
        doc.term("2 LOSSES: each what it says less a same number for all, not below 0 "
                + "(that number each time such that they are 100 together).");
        allGet(claiming(50, 50), LOSSES, 50, 1, 50, 1);
        allGet(claiming(50, 51), LOSSES, 99, 2, 101, 2);
        allGet(claiming(100, 1), LOSSES, 199, 2, 1, 2);
        // The number is 10, and one says just that; a little less and a little more.
        allGet(claiming(60, 10, 60), LOSSES, 50, 1, 0, 1, 50, 1);
        allGet(claiming(60, 9, 60), LOSSES, 50, 1, 0, 1, 50, 1);
        allGet(claiming(60, 11, 60), LOSSES, 149, 3, 2, 3, 149, 3);
        allGet(claiming(100, 100, 100, 100, 100, 100, 100), LOSSES, 100, 7, 100, 7, 100, 7, 100, 7, 100, 7, 100, 7, 100, 7);
        allGet(claiming(100, 0, 0, 0, 0, 0, 100), LOSSES, 50, 1, 0, 1, 0, 1, 0, 1, 0, 1, 0, 1, 50, 1);
        allGet(claiming(100, 1, 1, 1, 1, 1, 1), LOSSES, 694, 7, 1, 7, 1, 7, 1, 7, 1, 7, 1, 7, 1, 7);
        allGet(claiming(100, 99, 98, 97, 96, 95, 94), LOSSES, 121, 7, 114, 7, 107, 7, 100, 7, 93, 7, 86, 7, 79, 7);
        allGet(claiming(100, 50), LOSSES, 75, 1, 25, 1);
    }

    private void notOver() {
        doc.term("(If not: each what it says.)");
        for (int rule = 0; rule < 3; rule++) {
            allGet(claiming(), rule);
            allGet(claiming(1), rule, 1, 1);
            allGet(claiming(33, 33, 33), rule, 33, 1, 33, 1, 33, 1);
            allGet(claiming(33, 34, 33), rule, 33, 1, 34, 1, 33, 1);
            allGet(claiming(100), rule, 100, 1);
            allGet(claiming(0, 0, 0, 0, 0, 0, 100), rule, 0, 1, 0, 1, 0, 1, 0, 1, 0, 1, 0, 1, 100, 1);
            allGet(claiming(14, 14, 14, 14, 14, 14, 14), rule, 14, 1, 14, 1, 14, 1, 14, 1, 14, 1, 14, 1, 14, 1);
        }
    }

    private void unfairOfAll() {
        doc.term("UNFAIR is a RULE: how far each is from 100 times its SHARE, of all seven PEOPLE together.");
        for (int rule = 0; rule < 3; rule++) {
            unfairIs(claiming(), 7, rule, 0, 1);
            unfairIs(Build.hours(claiming(100), 7, 0, 1), 7, rule, 0, 1);
            unfairIs(Build.hours(claiming(99), 7, 0, 1), 7, rule, 1, 1);
            unfairIs(Build.hours(claiming(100, 100), 7, 0, 1, 1), 7, rule, 0, 1);
            unfairIs(Build.hours(claiming(100, 100), 7, 0, 0, 0, 0, 0, 0, 0, 1), 7, rule, 200, 1);
            unfairIs(Build.hours(claiming(), 7, 0, 1, 1, 1, 1, 1, 1, 1), 7, rule, 100, 1);
            unfairIs(claiming(100, 100, 100, 100, 100, 100, 100), 7, rule, 100, 1);
            // Six times 100/7, and 100 less 100/7.
            unfairIs(Build.hours(claiming(100, 100, 100, 100, 100, 100, 100), 7, 0, 0, 0, 0, 0, 0, 0, 9), 7, rule, 1200, 7);
            // In the ROW or not.
            unfairIs(Build.row(Build.hours(claiming(99), 7, 0, 1), 7, 5, 6), 7, rule, 1, 1);
        }
    }

    private void theFairest() {
        doc.term("THE FAIREST: the RULE that is least UNFAIR; of like ones the least.");
        doc.due("all alike", claiming(100, 100).fairest(7), PARTS);
        doc.due("parts", Build.hours(claiming(80, 40), 7, 0, 2, 1).fairest(7), PARTS);
        doc.due("caps", Build.hours(claiming(80, 40), 7, 0, 6, 4).fairest(7), CAPS);
        doc.due("losses", Build.hours(claiming(80, 40), 7, 0, 7, 3).fairest(7), LOSSES);
        // 60 to 40 by CAPS, 200/3 by PARTS, 70 by LOSSES; 19/30 lies between the first two.
        NamesInRow x = Build.weights(claiming(80, 40), 7, 2, 1);
        Build.hours(x, 7, 0, 6, 4);
        Build.hours(x, 7, 1, 7, 3);
        doc.due("parts and caps are like ones", x.unfair(7, PARTS, true), x.unfair(7, CAPS, true));
        doc.due("parts, as the least", x.fairest(7), PARTS);
        NamesInRow y = Build.hours(claiming(60, 70, 10), 7, 0, 6, 4);
        doc.due("caps and losses are like ones", y.unfair(7, CAPS, true), y.unfair(7, LOSSES, true));
        doc.due("caps, as the lesser", y.fairest(7), CAPS);
    }

    private void claim() {
        doc.promise(21, "A CLAIM: what it was.");
        NamesInRow x = new NamesInRow();
        doc.due("first of all", x.claim(0, 0, 100), 0);
        doc.due("last of all", x.claim(7, 6, 1), 0);
        doc.due("first of all again", x.claim(0, 0, 0), 100);
        doc.due("last of all again", x.claim(7, 6, 99), 1);
        doc.due("the same", x.claim(7, 6, 99), 99);
        doc.promise(21, "UNKNOWN; OUTSIDE.");
        for (int paper : Build.NO_PAPER) {
            doc.due("no paper", x.claim(paper, 6, 0), UNKNOWN);
            doc.due("no paper, too much", x.claim(paper, 6, 101), UNKNOWN);
        }
        for (int person : Build.NO_PERSON) {
            doc.due("no person", x.claim(7, person, 0), UNKNOWN);
            doc.due("no person, too much", x.claim(7, person, 101), UNKNOWN);
            doc.due("no person, too little", x.claim(7, person, -1), UNKNOWN);
        }
        for (int v : new int[] {-1, 101, NONE, Integer.MIN_VALUE, Integer.MAX_VALUE, 256}) {
            doc.due("not as told", x.claim(7, 6, v), OUTSIDE);
        }
        doc.due("unchanged", x.claim(7, 6, 0), 99);
    }

    private void over() {
        doc.promise(22, "OVER and 1000.");
        doc.due("the least", claiming().over(7), 900);
        doc.due("just not over", claiming(99, 1).over(7), 1000);
        doc.due("just over", claiming(100, 1).over(7), 1001);
        doc.due("the greatest", claiming(100, 100, 100, 100, 100, 100, 100).over(7), 1600);
        doc.due("of another paper", claiming(100, 100).over(0), 900);
        doc.promise(22, "UNKNOWN.");
        for (int paper : Build.NO_PAPER) {
            doc.due("no paper", claiming(100, 100).over(paper), UNKNOWN);
        }
    }

    private void gets() {
        doc.promise(23, "What a PERSON gets by a RULE.");
        NamesInRow x = claiming(90, 60, 40, 10);
        allGet(x, PARTS, 45, 1, 30, 1, 20, 1, 5, 1);
        allGet(x, CAPS, 30, 1, 30, 1, 30, 1, 10, 1);
        allGet(x, LOSSES, 60, 1, 30, 1, 10, 1, 0, 1);
        getsIs(x, 0, 0, LOSSES, 0, 1);
        x.claim(7, 0, 0);
        allGet(x, PARTS, 0, 1, 600, 11, 400, 11, 100, 11);
        allGet(x, CAPS, 0, 1, 50, 1, 40, 1, 10, 1);
        allGet(x, LOSSES, 0, 1, 170, 3, 110, 3, 20, 3);
        x.claim(7, 3, 0);
        for (int rule = 0; rule < 3; rule++) {
            allGet(x, rule, 0, 1, 60, 1, 40, 1);
        }
        doc.promise(23, "UNKNOWN; OUTSIDE: rule.");
        for (int paper : Build.NO_PAPER) {
            getsRefused(x, paper, 0, 0, UNKNOWN);
            getsRefused(x, paper, 7, 0, UNKNOWN);
            getsRefused(x, paper, 0, 3, UNKNOWN);
        }
        for (int person : Build.NO_PERSON) {
            getsRefused(x, 7, person, 0, UNKNOWN);
            getsRefused(x, 7, person, 3, UNKNOWN);
        }
        for (int rule : NO_RULE) {
            getsRefused(x, 7, 0, rule, OUTSIDE);
            getsRefused(claiming(100, 100), 7, 0, rule, OUTSIDE);
        }
    }

    private void getsRefused(NamesInRow x, int paper, int person, int rule, long due) {
        doc.fraction("gets(" + paper + ", " + person + ", " + rule + ")",
                x.gets(paper, person, rule, true), x.gets(paper, person, rule, false), due, due);
    }

    private void unfair() {
        doc.promise(24, "UNFAIR.");
        NamesInRow x = Build.hours(claiming(90, 60, 40, 10), 7, 0, 5, 3, 2);
        unfairIs(x, 7, PARTS, 10, 1);
        unfairIs(x, 7, CAPS, 40, 1);
        unfairIs(x, 7, LOSSES, 20, 1);
        unfairIs(x, 0, LOSSES, 0, 1);
        x.hours(7, 0, 6, 1);
        // 500/11, 300/11, 200/11 and 100/11 against 45, 30, 20, 5 and 0.
        unfairIs(x, 7, PARTS, 210, 11);
        // Great lower parts: WEIGHTS of 30, HOURS of 61, 59, 58 and 53, CLAIMS of 699.
        NamesInRow y = Build.weights(claiming(100, 100, 100, 100, 100, 100, 99), 7, 9, 8, 7, 6);
        Build.hours(y, 7, 0, 9, 9, 9, 9, 9, 9, 7);
        Build.hours(y, 7, 1, 9, 9, 9, 9, 9, 9, 5);
        Build.hours(y, 7, 2, 9, 9, 9, 9, 9, 9, 4);
        Build.hours(y, 7, 3, 8, 9, 9, 9, 9, 9, 0);
        unfairIs(y, 7, PARTS, 333230020, 24318443);
        unfairIs(y, 7, CAPS, 10190380, 730597);
        unfairIs(y, 7, LOSSES, 8937928, 730597);
        doc.promise(24, "UNKNOWN; OUTSIDE: rule.");
        for (int paper : Build.NO_PAPER) {
            unfairRefused(x, paper, 0, UNKNOWN);
            unfairRefused(x, paper, 3, UNKNOWN);
        }
        for (int rule : NO_RULE) {
            unfairRefused(x, 7, rule, OUTSIDE);
            unfairRefused(x, 0, rule, OUTSIDE);
        }
    }

    private void unfairRefused(NamesInRow x, int paper, int rule, long due) {
        doc.fraction("unfair(" + paper + ", " + rule + ")", x.unfair(paper, rule, true), x.unfair(paper, rule, false), due, due);
    }

    private void fairest() {
        doc.promise(25, "THE FAIREST.");
        doc.due("nothing claimed, nothing done", claiming().fairest(7), PARTS);
        doc.due("100 claimed", Build.hours(claiming(80, 20), 7, 0, 6, 4).fairest(7), PARTS);
        doc.due("101 claimed, the first did all", Build.hours(claiming(100, 1), 7, 0, 9, 0).fairest(7), LOSSES);
        doc.due("101 claimed, the lesser did more", Build.hours(claiming(100, 1), 7, 0, 0, 9).fairest(7), CAPS);
        doc.due("180 claimed, the first did most", Build.hours(claiming(100, 60, 20), 7, 0, 9, 2, 0).fairest(7), LOSSES);
        doc.due("of a paper without claims", claiming(100, 1).fairest(0), PARTS);
        doc.promise(25, "UNKNOWN.");
        for (int paper : Build.NO_PAPER) {
            doc.due("no paper", claiming(100, 1).fairest(paper), UNKNOWN);
        }
    }
}
