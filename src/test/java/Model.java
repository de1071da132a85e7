import java.math.BigInteger;
import java.util.ArrayList;
import java.util.Comparator;
import java.util.List;

/**
 * The document once more, written as slowly and plainly as can be: fractions of any size, all
 * orders tried, all caps tried. ModelTest holds the class against it.
 */
final class Model {
    private static final int NONE = -9;

    private final int[] trades = new int[8];
    private final int[][][] tasks = new int[8][4][2];
    private final int[][][] hours = new int[8][4][7];
    private final List<List<Integer>> rows = new ArrayList<>();
    private final int[][] claims = new int[8][7];
    private final int[] rooms = {NONE, NONE, NONE};
    private final int[][] minds = new int[7][7];
    private final int[] bears = {60, 60, 60, 60, 60, 60, 60};

    Model() {
        for (int paper = 0; paper < 8; paper++) {
            rows.add(new ArrayList<>());
            for (int task = 0; task < 4; task++) {
                tasks[paper][task][0] = task == 0 ? 1 : 0;
                tasks[paper][task][1] = 1;
            }
        }
    }

    /** A fraction in least terms. */
    record Fraction(BigInteger above, BigInteger below) {
        static Fraction of(long above, long below) {
            return least(BigInteger.valueOf(above), BigInteger.valueOf(below));
        }

        private static Fraction least(BigInteger above, BigInteger below) {
            BigInteger divisor = above.gcd(below);
            return new Fraction(above.divide(divisor), below.divide(divisor));
        }

        Fraction plus(Fraction o) {
            return least(above.multiply(o.below).add(o.above.multiply(below)), below.multiply(o.below));
        }

        Fraction times(long n, long by) {
            return least(above.multiply(BigInteger.valueOf(n)), below.multiply(BigInteger.valueOf(by)));
        }

        Fraction awayFrom(Fraction o) {
            Fraction less = plus(o.times(-1, 1));
            return new Fraction(less.above.abs(), less.below);
        }

        int compare(Fraction o) {
            return above.multiply(o.below).compareTo(o.above.multiply(below));
        }

        long told(boolean upper) {
            return upper ? above.longValueExact() : below.longValueExact();
        }
    }

    private static boolean in(int v, int most) {
        return 0 <= v && v <= most;
    }

    int trade(int paper, int v) {
        if (!in(paper, 7)) return -1;
        if (!in(v, 2)) return -2;
        int was = trades[paper];
        trades[paper] = v;
        return was;
    }

    int task(int paper, int task, int what, int v) {
        if (!in(paper, 7) || !in(task, 3)) return -1;
        if (!in(what, 1) || !in(v, what == 0 ? 9 : 50)) return -2;
        int was = tasks[paper][task][what];
        tasks[paper][task][what] = v;
        return was;
    }

    int hours(int paper, int task, int person, int v) {
        if (!in(paper, 7) || !in(task, 3) || !in(person, 6)) return -1;
        if (!in(v, 9)) return -2;
        int was = hours[paper][task][person];
        hours[paper][task][person] = v;
        return was;
    }

    int name(int paper, int person) {
        if (!in(paper, 7) || !in(person, 6)) return -1;
        if (rows.get(paper).contains(person)) return -3;
        rows.get(paper).add(person);
        return rows.get(paper).size();
    }

    int unname(int paper) {
        if (!in(paper, 7)) return -1;
        int stood = rows.get(paper).size();
        rows.get(paper).clear();
        return stood;
    }

    private static int place(List<Integer> row, int i) {
        return i < 0 || i >= row.size() ? NONE : row.get(i);
    }

    int at(int paper, int i) {
        return in(paper, 7) ? place(rows.get(paper), i) : -1;
    }

    int swap(int paper, int i) {
        if (!in(paper, 7)) return -1;
        List<Integer> row = rows.get(paper);
        if (i < 0 || (long) i + 1 >= row.size()) return -2;
        row.add(i, row.remove(i + 1));
        return row.get(i);
    }

    private int hoursIn(int paper, int task) {
        int sum = 0;
        for (int h : hours[paper][task]) sum += h;
        return sum;
    }

    private boolean done(int paper, int task) {
        return tasks[paper][task][0] > 0 && hoursIn(paper, task) > 0;
    }

    private Fraction shareOf(int paper, int person) {
        Fraction sum = Fraction.of(0, 1);
        int weights = 0;
        for (int task = 0; task < 4; task++) {
            if (done(paper, task)) {
                int weight = tasks[paper][task][0];
                weights += weight;
                sum = sum.plus(Fraction.of((long) weight * hours[paper][task][person], hoursIn(paper, task)));
            }
        }
        return weights == 0 ? sum : sum.times(1, weights);
    }

    long share(int paper, int person, boolean upper) {
        if (!in(paper, 7) || !in(person, 6)) return -1;
        return shareOf(paper, person).told(upper);
    }

    private List<Integer> found(int paper, boolean ghosts) {
        List<Integer> found = new ArrayList<>();
        if (ghosts) {
            for (int person = 0; person < 7; person++) {
                if (!rows.get(paper).contains(person) && shareOf(paper, person).above().signum() > 0) found.add(person);
            }
        } else {
            for (int person : rows.get(paper)) {
                if (shareOf(paper, person).above().signum() == 0) found.add(person);
            }
        }
        return found;
    }

    int gifts(int paper, boolean ghosts) {
        return in(paper, 7) ? found(paper, ghosts).size() : -1;
    }

    int gift(int paper, boolean ghosts, int i) {
        return in(paper, 7) ? place(found(paper, ghosts), i) : -1;
    }

    int room(int trade, int person) {
        if (!in(trade, 2)) return -2;
        if (person != NONE && !in(person, 6)) return -1;
        int was = rooms[trade];
        rooms[trade] = person;
        return was;
    }

    private List<Integer> ordered(int paper, int custom) {
        List<Integer> row = new ArrayList<>(rows.get(paper));
        row.sort(Comparator.naturalOrder());
        if (custom == 1) return row;
        row.sort((a, b) -> shareOf(paper, b).compare(shareOf(paper, a)));
        if (custom == 2 && row.remove((Integer) rooms[trades[paper]])) row.add(rooms[trades[paper]]);
        if (custom != 3) return row;
        List<Integer> front = new ArrayList<>();
        List<Integer> back = new ArrayList<>();
        for (int i = 0; i < row.size(); i++) {
            if (i % 2 == 0) front.add(row.get(i));
            else back.add(0, row.get(i));
        }
        front.addAll(back);
        return front;
    }

    int due(int paper, int custom, int i) {
        if (!in(paper, 7)) return -1;
        if (!in(custom, 3)) return -2;
        return place(ordered(paper, custom), i);
    }

    int fits(int paper) {
        if (!in(paper, 7)) return -1;
        int bits = 0;
        for (int custom = 0; custom < 4; custom++) {
            if (ordered(paper, custom).equals(rows.get(paper))) bits += 1 << custom;
        }
        return bits;
    }

    int learn(int trade) {
        if (!in(trade, 2)) return -2;
        int bits = 15;
        for (int paper = 0; paper < 8; paper++) {
            if (trades[paper] == trade && !rows.get(paper).isEmpty()) bits &= fits(paper);
        }
        return bits;
    }

    int off(int paper, int custom) {
        if (!in(paper, 7)) return -1;
        if (!in(custom, 3)) return -2;
        List<Integer> row = rows.get(paper);
        List<Integer> due = ordered(paper, custom);
        int pairs = 0;
        for (int a : row) {
            for (int b : row) {
                if (row.indexOf(a) < row.indexOf(b) && due.indexOf(a) > due.indexOf(b)) pairs++;
            }
        }
        return pairs;
    }

    private Fraction worthOf(int paper, int way, int i) {
        int n = rows.get(paper).size();
        if (i < 0 || i >= n) return Fraction.of(0, 1);
        switch (way) {
            case 0: return Fraction.of(1, 1);
            case 1: return Fraction.of(1, n);
            case 2: return n == 1 ? Fraction.of(1, 1) : i == 0 ? Fraction.of(1, 2) : Fraction.of(1, 2L * (n - 1));
            case 3:
                Fraction sum = Fraction.of(0, 1);
                for (int place = 1; place <= n; place++) sum = sum.plus(Fraction.of(1, place));
                return new Fraction(sum.below(), sum.above()).times(1, i + 1);
            default:
                Fraction share = shareOf(paper, rows.get(paper).get(i)).times(1000, 1);
                return Fraction.of(share.above().divide(share.below()).longValueExact(), 1000);
        }
    }

    private Fraction scoreOf(int person, int way) {
        Fraction sum = Fraction.of(0, 1);
        for (int paper = 0; paper < 8; paper++) sum = sum.plus(worthOf(paper, way, rows.get(paper).indexOf(person)));
        return sum;
    }

    long worth(int paper, int way, int i, boolean upper) {
        if (!in(paper, 7)) return -1;
        if (!in(way, 4)) return -2;
        return worthOf(paper, way, i).told(upper);
    }

    long score(int person, int way, boolean upper) {
        if (!in(person, 6)) return -1;
        if (!in(way, 4)) return -2;
        return scoreOf(person, way).told(upper);
    }

    int ahead(int person, int other) {
        if (!in(person, 6) || !in(other, 6)) return -1;
        int bits = 0;
        for (int way = 0; way < 5; way++) {
            if (scoreOf(person, way).compare(scoreOf(other, way)) > 0) bits += 1 << way;
        }
        return bits;
    }

    int rank(int way, int i) {
        if (!in(way, 4)) return -2;
        List<Integer> people = new ArrayList<>(List.of(0, 1, 2, 3, 4, 5, 6));
        people.sort((a, b) -> scoreOf(b, way).compare(scoreOf(a, way)));
        return place(people, i);
    }

    int claim(int paper, int person, int v) {
        if (!in(paper, 7) || !in(person, 6)) return -1;
        if (!in(v, 100)) return -2;
        int was = claims[paper][person];
        claims[paper][person] = v;
        return was;
    }

    private int claimed(int paper) {
        int sum = 0;
        for (int claim : claims[paper]) sum += claim;
        return sum;
    }

    int over(int paper) {
        return in(paper, 7) ? claimed(paper) - 100 + 1000 : -1;
    }

    private Fraction got(int paper, int person, int rule) {
        int own = claims[paper][person];
        if (claimed(paper) <= 100) return Fraction.of(own, 1);
        if (rule == 0) return Fraction.of(own * 100L, claimed(paper));
        for (int by = 1; by <= 7; by++) {
            for (int told = 0; told <= 700; told++) {
                int sum = 0;
                for (int claim : claims[paper]) sum += left(claim, rule, told, by);
                if (sum == 100 * by) return Fraction.of(left(own, rule, told, by), by);
            }
        }
        throw new IllegalStateException("no such number");
    }

    /** What a cap or a loss of told by by leaves of a claim, times by. */
    private static int left(int claim, int rule, int told, int by) {
        return rule == 1 ? Math.min(claim * by, told) : Math.max(claim * by - told, 0);
    }

    private Fraction unfairnessOf(int paper, int rule) {
        Fraction sum = Fraction.of(0, 1);
        for (int person = 0; person < 7; person++) {
            sum = sum.plus(got(paper, person, rule).awayFrom(shareOf(paper, person).times(100, 1)));
        }
        return sum;
    }

    long gets(int paper, int person, int rule, boolean upper) {
        if (!in(paper, 7) || !in(person, 6)) return -1;
        if (!in(rule, 2)) return -2;
        return got(paper, person, rule).told(upper);
    }

    long unfair(int paper, int rule, boolean upper) {
        if (!in(paper, 7)) return -1;
        if (!in(rule, 2)) return -2;
        return unfairnessOf(paper, rule).told(upper);
    }

    int fairest(int paper) {
        if (!in(paper, 7)) return -1;
        int best = 0;
        for (int rule = 1; rule < 3; rule++) {
            if (unfairnessOf(paper, rule).compare(unfairnessOf(paper, best)) < 0) best = rule;
        }
        return best;
    }

    int mind(int person, int other, int v) {
        if (!in(person, 6) || !in(other, 6)) return -1;
        if (!in(v, 9)) return -2;
        if (person == other) return -3;
        int was = minds[person][other];
        minds[person][other] = v;
        return was;
    }

    int bear(int person, int v) {
        if (!in(person, 6)) return -1;
        if (!in(v, 60)) return -2;
        int was = bears[person];
        bears[person] = v;
        return was;
    }

    /** What all mind in an order, and how many do not bear it. */
    private int[] quarrelIn(List<Integer> order) {
        int all = 0;
        int unborne = 0;
        for (int i = 0; i < order.size(); i++) {
            int own = 0;
            for (int j = 0; j < i; j++) own += minds[order.get(i)][order.get(j)];
            all += own;
            if (own > bears[order.get(i)]) unborne++;
        }
        return new int[] {all, unborne};
    }

    int quarrel(int paper, boolean all) {
        return in(paper, 7) ? quarrelIn(rows.get(paper))[all ? 0 : 1] : -1;
    }

    /** Null if there is none. All orders are tried, the first by numbers first. */
    private List<Integer> peaceOf(int set) {
        List<List<Integer>> best = new ArrayList<>();
        tryOrders(set, new ArrayList<>(), best);
        return best.isEmpty() ? null : best.get(0);
    }

    private void tryOrders(int set, List<Integer> order, List<List<Integer>> best) {
        if (order.size() == Integer.bitCount(set)) {
            int[] quarrel = quarrelIn(order);
            if (quarrel[1] == 0 && (best.isEmpty() || quarrel[0] < quarrelIn(best.get(0))[0])) {
                best.clear();
                best.add(new ArrayList<>(order));
            }
        }
        for (int person = 0; person < 7; person++) {
            if ((set & 1 << person) != 0 && !order.contains(person)) {
                order.add(person);
                tryOrders(set, order, best);
                order.remove(order.size() - 1);
            }
        }
    }

    int peace(int set) {
        if (!in(set, 127)) return -2;
        List<Integer> order = peaceOf(set);
        return order == null ? NONE : quarrelIn(order)[0];
    }

    int peaceAt(int set, int i) {
        if (!in(set, 127)) return -2;
        List<Integer> order = peaceOf(set);
        return order == null ? NONE : place(order, i);
    }

    int settle(int paper) {
        if (!in(paper, 7)) return -1;
        int set = 0;
        for (int person : rows.get(paper)) set |= 1 << person;
        List<Integer> order = peaceOf(set);
        if (order == null) return NONE;
        int moved = 0;
        for (int person : order) {
            if (order.indexOf(person) != rows.get(paper).indexOf(person)) moved++;
        }
        rows.set(paper, order);
        return moved;
    }

    private int owedTo(int person, int trade) {
        int sum = 0;
        for (int paper = 0; paper < 8; paper++) {
            if ((trade == -1 || trades[paper] == trade) && rows.get(paper).contains(person)) {
                sum += rows.get(paper).indexOf(person) - ordered(paper, 0).indexOf(person);
            }
        }
        return sum;
    }

    int owed(int person, int trade) {
        if (!in(person, 6)) return -1;
        if (trade < -1 || trade > 2) return -2;
        return owedTo(person, trade) + 1000;
    }

    int next(int set, int trade, int i) {
        if (!in(set, 127) || trade < -1 || trade > 2) return -2;
        List<Integer> people = new ArrayList<>();
        for (int person = 0; person < 7; person++) {
            if ((set & 1 << person) != 0) people.add(person);
        }
        people.sort((a, b) -> owedTo(b, trade) - owedTo(a, trade));
        return place(people, i);
    }

    private boolean known(int paper, int kept, int w) {
        int lost = 0;
        int all = 0;
        for (int task = 0; task < 4; task++) {
            if (done(paper, task)) {
                all += tasks[paper][task][0];
                if ((kept & 1 << task) == 0) lost += tasks[paper][task][0];
            }
        }
        return 100 * lost <= w * all;
    }

    private int costOf(int paper, int kept) {
        int sum = 0;
        for (int task = 0; task < 4; task++) {
            if ((kept & 1 << task) != 0) sum += tasks[paper][task][1];
        }
        return sum;
    }

    int keep(int paper, int w) {
        if (!in(paper, 7)) return -1;
        if (!in(w, 100)) return -2;
        List<Integer> ways = new ArrayList<>();
        for (int kept = 0; kept < 16; kept++) {
            if (known(paper, kept, w)) ways.add(kept);
        }
        ways.sort(Comparator.<Integer>comparingInt(kept -> costOf(paper, kept))
                .thenComparingInt(Integer::bitCount).thenComparingInt(kept -> kept));
        return ways.get(0);
    }

    int cost(int paper, int w) {
        int kept = keep(paper, w);
        return kept < 0 ? kept : costOf(paper, kept);
    }

    int count(int what) {
        if (!in(what, 3)) return -2;
        int sum = 0;
        for (int paper = 0; paper < 8; paper++) {
            if (what == 0 && !rows.get(paper).isEmpty()) sum++;
            if (what == 1) sum += rows.get(paper).size();
            if (what == 3 && claimed(paper) > 100) sum++;
            for (int task = 0; what == 2 && task < 4; task++) {
                if (done(paper, task)) sum++;
            }
        }
        return sum;
    }
}
