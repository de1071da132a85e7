/** Makes papers for tests. */
final class Build {
    static final int[] NO_PAPER = {-1, 8, -9, Integer.MIN_VALUE, Integer.MAX_VALUE, 256, 65536};
    static final int[] NO_PERSON = {-1, 7, -9, Integer.MIN_VALUE, Integer.MAX_VALUE, 256, 65536};
    static final int[] NEVER_A_PLACE = {-1, 7, -9, Integer.MIN_VALUE, Integer.MAX_VALUE, 256, 65536, -7};

    private Build() {
    }

    /** Instead of those who stood there. */
    static NamesInRow row(NamesInRow x, int paper, int... people) {
        x.unname(paper);
        for (int person : people) {
            x.name(paper, person);
        }
        return x;
    }

    static NamesInRow hours(NamesInRow x, int paper, int task, int... hours) {
        for (int person = 0; person < hours.length; person++) {
            x.hours(paper, task, person, hours[person]);
        }
        return x;
    }

    static NamesInRow weights(NamesInRow x, int paper, int... weights) {
        for (int task = 0; task < weights.length; task++) {
            x.task(paper, task, 0, weights[task]);
        }
        return x;
    }

    static NamesInRow costs(NamesInRow x, int paper, int... costs) {
        for (int task = 0; task < costs.length; task++) {
            x.task(paper, task, 1, costs[task]);
        }
        return x;
    }

    static NamesInRow claims(NamesInRow x, int paper, int... claims) {
        for (int person = 0; person < claims.length; person++) {
            x.claim(paper, person, claims[person]);
        }
        return x;
    }

    /** Each minds each so much. */
    static NamesInRow allMind(NamesInRow x, int v) {
        for (int person = 0; person < 7; person++) {
            for (int other = 0; other < 7; other++) {
                if (person != other) {
                    x.mind(person, other, v);
                }
            }
        }
        return x;
    }
}
