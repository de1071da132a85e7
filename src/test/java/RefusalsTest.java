import java.util.ArrayList;
import java.util.List;

/** What is refused, and what only asks, changes nothing; and no number makes a call throw. */
public final class RefusalsTest {
    private static final Check CHECK = new Check("RefusalsTest");
    private static final int[] WILD = {Integer.MIN_VALUE, Integer.MIN_VALUE + 1, -1000, -10, -9, -3, -2, -1, 0, 1, 2, 3,
        4, 5, 6, 7, 8, 9, 10, 50, 51, 60, 61, 100, 101, 127, 128, 1000, Integer.MAX_VALUE - 1, Integer.MAX_VALUE};

    public static void main(String[] args) {
        NamesInRow x = full();
        List<Long> before = allAnswers(x);
        CHECK.isTrue("asking changes nothing", allAnswers(x).equals(before));
        refusedCalls(x);
        CHECK.isTrue("what is refused changes nothing", allAnswers(x).equals(before));
        wildCalls();
        CHECK.end();
    }

    private static NamesInRow full() {
        NamesInRow x = new NamesInRow();
        for (int paper = 0; paper < 8; paper++) {
            x.trade(paper, paper % 3);
            for (int task = 0; task < 4; task++) {
                x.task(paper, task, 0, (paper * 3 + task * 5) % 10);
                x.task(paper, task, 1, (paper * 7 + task * 11) % 51);
                for (int person = 0; person < 7; person++) {
                    x.hours(paper, task, person, (paper + 2 * task + 3 * person) % 10);
                }
            }
            for (int i = 0; i < paper && i < 7; i++) {
                x.name(paper, (paper + i * 3) % 7);
            }
            for (int person = 0; person < 7; person++) {
                x.claim(paper, person, (paper * 13 + person * 17) % 60);
            }
        }
        for (int person = 0; person < 7; person++) {
            x.bear(person, 20 + person * 3);
            for (int other = 0; other < 7; other++) {
                x.mind(person, other, (person * 5 + other * 3) % 10);
            }
        }
        x.room(0, 3);
        x.room(2, 5);
        return x;
    }

    private static void refused(String call, long answer) {
        CHECK.isTrue(call + " is refused", answer == -1 || answer == -2 || answer == -3);
    }

    private static void refusedCalls(NamesInRow x) {
        for (int wrong : new int[] {-1, 8, 101, Integer.MIN_VALUE, Integer.MAX_VALUE}) {
            refused("trade", x.trade(wrong, 1));
            refused("trade", x.trade(1, wrong));
            refused("task", x.task(wrong, 1, 0, 3));
            refused("task", x.task(1, wrong, 0, 3));
            refused("task", x.task(1, 1, wrong, 3));
            refused("task", x.task(1, 1, 0, wrong == 8 ? 10 : wrong));
            refused("task", x.task(1, 1, 1, wrong == 8 ? 51 : wrong));
            refused("hours", x.hours(wrong, 1, 1, 8));
            refused("hours", x.hours(1, wrong, 1, 8));
            refused("hours", x.hours(1, 1, wrong, 8));
            refused("hours", x.hours(1, 1, 1, wrong == 8 ? 10 : wrong));
            refused("name", x.name(wrong, 1));
            refused("name", x.name(1, wrong));
            refused("unname", x.unname(wrong));
            refused("swap", x.swap(wrong, 0));
            refused("swap", x.swap(7, wrong));
            refused("room", x.room(wrong, 1));
            refused("room", x.room(1, wrong));
            refused("claim", x.claim(wrong, 1, 5));
            refused("claim", x.claim(1, wrong, 5));
            refused("claim", x.claim(1, 1, wrong == 8 ? 101 : wrong));
            refused("mind", x.mind(wrong, 1, 9));
            refused("mind", x.mind(1, wrong, 9));
            refused("mind", x.mind(1, 2, wrong == 8 ? 10 : wrong));
            refused("mind", x.mind(1, 1, 9));
            refused("bear", x.bear(wrong, 9));
            refused("bear", x.bear(1, wrong == 8 ? 61 : wrong));
            refused("settle", x.settle(wrong));
        }
        refused("name again", x.name(7, x.at(7, 2)));
    }

    private static List<Long> allAnswers(NamesInRow x) {
        List<Long> answers = new ArrayList<>();
        for (int paper = 0; paper < 8; paper++) {
            kept(x, paper, answers);
            asked(x, paper, answers);
        }
        for (int person = 0; person < 7; person++) {
            int bears = x.bear(person, 0);
            x.bear(person, bears);
            add(answers, bears);
            for (int other = 0; other < 7; other++) {
                int minds = x.mind(person, other, 0);
                x.mind(person, other, Math.max(minds, 0));
                add(answers, minds, x.ahead(person, other));
            }
            for (int way = 0; way < 5; way++) {
                add(answers, x.score(person, way, true), x.score(person, way, false), x.rank(way, person));
            }
        }
        for (int trade = -1; trade < 3; trade++) {
            int holder = x.room(trade, NamesInRow.NONE);
            x.room(trade, holder);
            add(answers, holder, x.learn(trade));
            for (int i = 0; i < 7; i++) {
                add(answers, x.owed(i, trade), x.next(127, trade, i), x.next(91, trade, i));
            }
        }
        for (int set = 0; set < 128; set++) {
            add(answers, x.peace(set), x.peaceAt(set, 0), x.peaceAt(set, 1), x.peaceAt(set, 6));
        }
        add(answers, x.count(0), x.count(1), x.count(2), x.count(3));
        return answers;
    }

    private static void add(List<Long> answers, long... more) {
        for (long answer : more) {
            answers.add(answer);
        }
    }

    /** What only a call that changes it tells: it is put back. */
    private static void kept(NamesInRow x, int paper, List<Long> answers) {
        int trade = x.trade(paper, 0);
        x.trade(paper, trade);
        add(answers, trade);
        for (int task = 0; task < 4; task++) {
            int weight = x.task(paper, task, 0, 0);
            int cost = x.task(paper, task, 1, 0);
            x.task(paper, task, 0, weight);
            x.task(paper, task, 1, cost);
            add(answers, weight, cost);
            for (int person = 0; person < 7; person++) {
                int hours = x.hours(paper, task, person, 0);
                x.hours(paper, task, person, hours);
                add(answers, hours);
            }
        }
        for (int person = 0; person < 7; person++) {
            int claim = x.claim(paper, person, 0);
            x.claim(paper, person, claim);
            add(answers, claim);
        }
    }

    private static void asked(NamesInRow x, int paper, List<Long> answers) {
        add(answers, x.gifts(paper, true), x.gifts(paper, false), x.fits(paper), x.over(paper), x.fairest(paper),
                x.quarrel(paper, true), x.quarrel(paper, false));
        for (int i = 0; i < 7; i++) {
            add(answers, x.at(paper, i), x.share(paper, i, true), x.share(paper, i, false), x.gift(paper, true, i),
                    x.gift(paper, false, i));
            for (int custom = 0; custom < 4; custom++) {
                add(answers, x.due(paper, custom, i), x.off(paper, custom));
            }
            for (int way = 0; way < 5; way++) {
                add(answers, x.worth(paper, way, i, true), x.worth(paper, way, i, false));
            }
            for (int rule = 0; rule < 3; rule++) {
                add(answers, x.gets(paper, i, rule, true), x.gets(paper, i, rule, false),
                        x.unfair(paper, rule, true), x.unfair(paper, rule, false));
            }
        }
        for (int w = 0; w <= 100; w++) {
            add(answers, x.keep(paper, w), x.cost(paper, w));
        }
    }

    private static void wildCalls() {
        NamesInRow x = full();
        long sum = 0;
        for (int a : WILD) {
            sum += x.at(a, 0) + x.gifts(a, true) + x.fits(a) + x.learn(a) + x.over(a) + x.fairest(a)
                    + x.quarrel(a, true) + x.peace(a) + x.settle(a) + x.count(a);
            for (int b : WILD) {
                sum += x.trade(a, b) + x.name(a, b) + x.at(a, b) + x.swap(a, b) + x.room(a, b) + x.off(a, b)
                        + x.ahead(a, b) + x.rank(a, b) + x.bear(a, b) + x.peaceAt(a, b) + x.owed(a, b)
                        + x.keep(a, b) + x.cost(a, b) + x.share(a, b, true) + x.gift(a, true, b)
                        + x.gift(a, false, b) + x.score(a, b, false) + x.unfair(a, b, true);
                for (int c : WILD) {
                    sum += x.due(a, b, c) + x.claim(a, b, c) + x.mind(a, b, c) + x.next(a, b, c)
                            + x.hours(a, 1, b, c) + x.hours(2, a, b, c) + x.task(a, 1, b, c) + x.task(2, a, b, c)
                            + x.worth(a, b, c, true) + x.gets(a, b, c, true);
                }
            }
            x.unname(a);
        }
        CHECK.isTrue("no call threw", sum != Long.MIN_VALUE);
    }
}
