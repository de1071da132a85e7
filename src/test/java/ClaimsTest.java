/** Promises 21 to 25: claims. */
public final class ClaimsTest {
    private static final Check CHECK = new Check("ClaimsTest");
    private static final int[] NO_PAPER = {-1, 8, Integer.MIN_VALUE, Integer.MAX_VALUE, NamesInRow.NONE};
    private static final int[] NO_PERSON = {-1, 7, Integer.MIN_VALUE, Integer.MAX_VALUE, NamesInRow.NONE};
    private static final int[] NO_RULE = {-1, 3, Integer.MIN_VALUE, Integer.MAX_VALUE};

    public static void main(String[] args) {
        claim();
        over();
        gets();
        getsOfManyAlike();
        getsRefused();
        unfair();
        fairest();
        CHECK.end();
    }

    private static NamesInRow claims(int... claims) {
        NamesInRow x = new NamesInRow();
        for (int person = 0; person < claims.length; person++) {
            x.claim(5, person, claims[person]);
        }
        return x;
    }

    private static NamesInRow withHours(NamesInRow x, int... hours) {
        for (int person = 0; person < hours.length; person++) {
            x.hours(5, 0, person, hours[person]);
        }
        return x;
    }

    private static void claim() {
        NamesInRow x = new NamesInRow();
        CHECK.due("21: claim 100", x.claim(7, 6, 100), 0);
        CHECK.due("21: claim 0", x.claim(7, 6, 0), 100);
        CHECK.due("21: claim 7", x.claim(7, 6, 7), 0);
        CHECK.due("21: claim 101", x.claim(7, 6, 101), -2);
        CHECK.due("21: claim -1", x.claim(7, 6, -1), -2);
        CHECK.due("21: another paper", x.claim(6, 6, 0), 0);
        CHECK.due("21: another person", x.claim(7, 5, 0), 0);
        for (int paper : NO_PAPER) {
            CHECK.due("21: no paper", x.claim(paper, 0, 0), -1);
            CHECK.due("21: UNKNOWN is first", x.claim(paper, 0, 101), -1);
        }
        for (int person : NO_PERSON) {
            CHECK.due("21: no person", x.claim(0, person, 0), -1);
            CHECK.due("21: UNKNOWN is first", x.claim(0, person, 101), -1);
        }
        CHECK.due("21: unchanged", x.claim(7, 6, 0), 7);
    }

    private static void over() {
        CHECK.due("22: none", claims().over(5), 900);
        CHECK.due("22: 99", claims(50, 49).over(5), 999);
        CHECK.due("22: 100", claims(50, 50).over(5), 1000);
        CHECK.due("22: 101", claims(50, 51).over(5), 1001);
        CHECK.due("22: 700", claims(100, 100, 100, 100, 100, 100, 100).over(5), 1600);
        for (int paper : NO_PAPER) {
            CHECK.due("22: no paper", claims(99, 99).over(paper), -1);
        }
    }

    /** Pairs of an upper and a lower part, a pair for each PERSON. */
    private static void getsDue(NamesInRow x, int rule, long... due) {
        for (int person = 0; person < due.length / 2; person++) {
            CHECK.dueFraction("23: over " + x.over(5) + ", rule " + rule + ", person " + person,
                    x.gets(5, person, rule, true), x.gets(5, person, rule, false),
                    due[2 * person], due[2 * person + 1]);
        }
    }

    private static void gets() {
        for (int rule = 0; rule < 3; rule++) {
            getsDue(claims(), rule, 0, 1, 0, 1, 0, 1, 0, 1, 0, 1, 0, 1, 0, 1);
            getsDue(claims(60, 0, 40), rule, 60, 1, 0, 1, 40, 1, 0, 1);
            getsDue(claims(0, 0, 0, 0, 0, 0, 100), rule, 0, 1, 0, 1, 0, 1, 0, 1, 0, 1, 0, 1, 100, 1);
        }
        getsDue(claims(50, 30, 30, 10), 0, 125, 3, 25, 1, 25, 1, 25, 3, 0, 1);
        getsDue(claims(50, 30, 30, 10), 1, 30, 1, 30, 1, 30, 1, 10, 1, 0, 1);
        getsDue(claims(50, 30, 30, 10), 2, 45, 1, 25, 1, 25, 1, 5, 1, 0, 1);
        getsDue(claims(10, 90, 10, 60, 10), 0, 50, 9, 50, 1, 50, 9, 100, 3, 50, 9);
        getsDue(claims(10, 90, 10, 60, 10), 1, 10, 1, 35, 1, 10, 1, 35, 1, 10, 1);
        getsDue(claims(10, 90, 10, 60, 10), 2, 0, 1, 65, 1, 0, 1, 35, 1, 0, 1);
        getsDue(claims(1, 100), 0, 100, 101, 10000, 101);
        getsDue(claims(1, 100), 1, 1, 1, 99, 1);
        getsDue(claims(1, 100), 2, 1, 2, 199, 2);
        getsDue(claims(60, 1, 60, 60), 1, 33, 1, 1, 1, 33, 1, 33, 1);
        getsDue(claims(60, 1, 60, 60), 2, 100, 3, 0, 1, 100, 3, 100, 3);
        getsDue(claims(60, 4, 60, 60), 1, 32, 1, 4, 1, 32, 1, 32, 1);
        getsDue(claims(60, 5, 60, 60), 1, 95, 3, 5, 1, 95, 3, 95, 3);
    }

    private static void getsOfManyAlike() {
        for (int rule = 0; rule < 3; rule++) {
            getsDue(claims(100, 100, 100), rule, 100, 3, 100, 3, 100, 3, 0, 1);
            getsDue(claims(15, 15, 15, 15, 15, 15, 15), rule,
                    100, 7, 100, 7, 100, 7, 100, 7, 100, 7, 100, 7, 100, 7);
            getsDue(claims(100, 100, 100, 100, 100, 100, 100), rule,
                    100, 7, 100, 7, 100, 7, 100, 7, 100, 7, 100, 7, 100, 7);
            getsDue(claims(0, 0, 0, 100, 0, 0, 100), rule, 0, 1, 0, 1, 0, 1, 50, 1, 0, 1, 0, 1, 50, 1);
        }
        getsDue(claims(15, 15, 15, 15, 15, 15, 16), 2,
                99, 7, 99, 7, 99, 7, 99, 7, 99, 7, 99, 7, 106, 7);
    }

    private static void getsRefused() {
        NamesInRow x = claims(60, 60);
        for (int paper : NO_PAPER) {
            CHECK.dueFraction("23: no paper", x.gets(paper, 0, 0, true), x.gets(paper, 0, 0, false), -1, -1);
            CHECK.due("23: UNKNOWN is first", x.gets(paper, 0, 3, true), -1);
        }
        for (int person : NO_PERSON) {
            CHECK.dueFraction("23: no person", x.gets(5, person, 0, true), x.gets(5, person, 0, false), -1, -1);
            CHECK.due("23: UNKNOWN is first", x.gets(5, person, 3, false), -1);
        }
        for (int rule : NO_RULE) {
            CHECK.dueFraction("23: no rule", x.gets(5, 0, rule, true), x.gets(5, 0, rule, false), -2, -2);
            CHECK.dueFraction("23: no rule, not over", x.gets(0, 0, rule, true), x.gets(0, 0, rule, false), -2, -2);
        }
    }

    private static void unfairDue(NamesInRow x, int rule, long upper, long lower) {
        CHECK.dueFraction("24: over " + x.over(5) + ", rule " + rule,
                x.unfair(5, rule, true), x.unfair(5, rule, false), upper, lower);
    }

    private static void unfair() {
        for (int rule = 0; rule < 3; rule++) {
            unfairDue(claims(), rule, 0, 1);
            unfairDue(claims(20, 30), rule, 50, 1);
            unfairDue(claims(80, 90), rule, 100, 1);
            unfairDue(withHours(claims(), 1, 2), rule, 100, 1);
            unfairDue(withHours(claims(20, 30), 1, 2), rule, 50, 1);
            // He who claims nothing and did something counts, and so does he who did nothing.
            unfairDue(withHours(claims(100, 100), 0, 0, 0, 0, 0, 0, 4), rule, 200, 1);
        }
        NamesInRow x = withHours(claims(100, 1), 1, 2);
        unfairDue(x, 0, 39800, 303);
        unfairDue(x, 1, 394, 3);
        unfairDue(x, 2, 397, 3);
        NamesInRow y = withHours(claims(60, 70, 10), 6, 4);
        unfairDue(y, 0, 240, 7);
        unfairDue(y, 1, 30, 1);
        unfairDue(y, 2, 30, 1);
        for (int paper : NO_PAPER) {
            CHECK.dueFraction("24: no paper", x.unfair(paper, 0, true), x.unfair(paper, 0, false), -1, -1);
            CHECK.due("24: UNKNOWN is first", x.unfair(paper, 3, true), -1);
        }
        for (int rule : NO_RULE) {
            unfairDue(x, rule, -2, -2);
        }
    }

    private static void fairest() {
        CHECK.due("25: nothing claimed", claims().fairest(5), 0);
        CHECK.due("25: nothing done", claims(90, 60, 40, 10).fairest(5), 0);
        CHECK.due("25: not over", withHours(claims(50, 50), 1, 8).fairest(5), 0);
        CHECK.due("25: parts", withHours(claims(90, 60, 40, 10), 5, 3, 2).fairest(5), 0);
        CHECK.due("25: caps", withHours(claims(100, 1), 1, 2).fairest(5), 1);
        CHECK.due("25: losses", withHours(claims(90, 60, 40, 10), 6, 3, 1).fairest(5), 2);
        CHECK.due("25: caps, of two alike", withHours(claims(60, 70, 10), 6, 4).fairest(5), 1);
        for (int paper : NO_PAPER) {
            CHECK.due("25: no paper", claims(100, 1).fairest(paper), -1);
        }
    }
}
