import java.util.ArrayList;
import java.util.Arrays;
import java.util.List;
import java.util.Random;

/** What is refused, and what only asks, leaves every later answer as it was, within the 512 calls of an object. */
final class UnchangedEdges {
    private static final int MOST_CALLS = 512;
    private static final int BUILDING = 260;
    private static final int ASKED = MOST_CALLS - BUILDING - 1;
    private static final int[] SETS = {0, 1, 64, 66, 7, 56, 85, 127};

    private final Sentences doc;
    private final List<Face.Call> calls = Face.calls();

    UnchangedEdges(Sentences doc) {
        this.doc = doc;
    }

    void run() {
        doc.term("What is refused changes nothing.");
        List<Step> questions = questions();
        List<Step> harmless = refused();
        harmless.addAll(asking());
        for (int seed = 0; seed < 3; seed++) {
            List<Step> building = building(seed);
            for (int first = 0; first < questions.size(); first += ASKED) {
                compare("questions from " + first, building, harmless,
                        questions.subList(first, Math.min(first + ASKED, questions.size())));
            }
            compare("going on", building, harmless, goingOn(seed));
        }
        noPeace();
    }

    /** On one object there was a harmless call between, on the other none. */
    private void compare(String what, List<Step> building, List<Step> harmless, List<Step> later) {
        long[] due = answers(building, null, later);
        for (Step step : harmless) {
            doc.isTrue(step.told() + " after " + building.size() + " calls, " + what,
                    Arrays.equals(answers(building, step, later), due));
        }
    }

    /** A call with its numbers. */
    private static final class Step {
        final Face.Call call;
        final int[] with;

        Step(Face.Call call, int... with) {
            this.call = call;
            this.with = with;
        }

        String told() {
            return call.told(with);
        }
    }

    private static long[] answers(List<Step> building, Step between, List<Step> slice) {
        NamesInRow x = new NamesInRow();
        for (Step step : building) {
            step.call.on(x, step.with);
        }
        if (between != null) {
            between.call.on(x, between.with);
        }
        long[] answers = new long[slice.size()];
        for (int i = 0; i < answers.length; i++) {
            answers[i] = slice.get(i).call.on(x, slice.get(i).with);
        }
        return answers;
    }

    /** A new object, one with all PAPERS in use, and one with few that are full. */
    private List<Step> building(int seed) {
        List<Step> steps = new ArrayList<>();
        Random random = new Random(seed);
        String[] often = {"trade", "task", "hours", "hours", "hours", "name", "name", "claim", "claim", "mind", "room", "bear"};
        while (seed > 0 && steps.size() < BUILDING) {
            Face.Call call = named(often[random.nextInt(often.length)], random.nextInt(2));
            int[] with = call.anyTaken(random);
            if (seed == 2 && call.numbers[0].greatest == 7) {
                with[0] = with[0] % 2 * 7;
            }
            steps.add(new Step(call, with));
        }
        return steps;
    }

    /** Calls of all kinds, those that change something among them. */
    private List<Step> goingOn(int seed) {
        List<Step> steps = new ArrayList<>();
        Random random = new Random(100 + seed);
        while (steps.size() < ASKED) {
            Face.Call call = calls.get(random.nextInt(calls.size()));
            steps.add(new Step(call, call.anyTaken(random)));
        }
        return steps;
    }

    /** The first row of the face that bears this name, or one behind it. */
    private Face.Call named(String name, int behind) {
        for (int i = 0; i < calls.size(); i++) {
            if (calls.get(i).name.equals(name)) {
                return calls.get(i + behind).name.equals(name) ? calls.get(i + behind) : calls.get(i);
            }
        }
        throw new IllegalStateException(name);
    }

    private List<Step> refused() {
        List<Step> refused = new ArrayList<>();
        for (Face.Call call : calls) {
            for (int i = 0; i < call.numbers.length; i++) {
                for (int wrong : call.numbers[i].isRefusable() ? call.numbers[i].wrongOnes() : new int[0]) {
                    for (int turn = 0; turn < 2; turn++) {
                        int[] with = call.taken(turn == 0);
                        with[i] = wrong;
                        refused.add(new Step(call, with));
                    }
                }
            }
        }
        for (int person = 0; person < 7; person++) {
            refused.add(new Step(named("mind", 0), person, person, 9));
            refused.add(new Step(named("mind", 0), person, person, 0));
        }
        return refused;
    }

    private List<Step> asking() {
        List<Step> asking = new ArrayList<>();
        for (Face.Call call : calls) {
            if (call.isQuestion()) {
                asking.add(new Step(call, call.taken(true)));
                asking.add(new Step(call, call.taken(false)));
            }
        }
        return asking;
    }

    private List<Step> questions() {
        List<Step> questions = new ArrayList<>();
        for (Face.Call call : calls) {
            if (call.isQuestion()) {
                askAll(questions, call, new int[call.numbers.length], 0);
            }
        }
        // These tell what was and put another number there: each is asked once, at the end.
        for (String name : List.of("trade", "hours", "claim", "mind", "bear", "room")) {
            tellBack(questions, named(name, 0));
        }
        tellBack(questions, named("task", 0));
        tellBack(questions, named("task", 1));
        for (String name : List.of("swap", "settle", "name", "unname")) {
            for (int paper = 0; paper < 8; paper++) {
                Face.Call call = named(name, 0);
                questions.add(call.numbers.length == 1 ? new Step(call, paper) : new Step(call, paper, 1));
            }
        }
        return questions;
    }

    private void askAll(List<Step> questions, Face.Call call, int[] with, int i) {
        if (i == with.length) {
            questions.add(new Step(call, with.clone()));
            return;
        }
        Face.Range range = call.numbers[i];
        int[] asked = range.greatest == 127 ? SETS : null;
        int step = range.greatest == 100 ? 20 : 1;
        for (int v = range.least; v <= (asked == null ? range.greatest : asked.length - 1); v += step) {
            with[i] = asked == null ? v : asked[v];
            askAll(questions, call, with, i + 1);
        }
    }

    /** All cells of what a call keeps; the last number is the new one. */
    private void tellBack(List<Step> questions, Face.Call call) {
        int cells = call.numbers.length - 1;
        int[] with = new int[call.numbers.length];
        int all = 1;
        for (int i = 0; i < cells; i++) {
            all *= call.numbers[i].greatest - call.numbers[i].least + 1;
        }
        for (int cell = 0; cell < all; cell++) {
            int rest = cell;
            for (int i = 0; i < cells; i++) {
                int size = call.numbers[i].greatest - call.numbers[i].least + 1;
                with[i] = call.numbers[i].least + rest % size;
                rest /= size;
            }
            with[cells] = 0;
            questions.add(new Step(call, with.clone()));
        }
    }

    /** settle answers NONE and name STATE: the ROW stands as it stood. */
    private void noPeace() {
        NamesInRow x = Build.row(Build.allMind(new NamesInRow(), 1), 7, 6, 5, 4, 3, 2, 1, 0);
        x.bear(3, 0);
        x.bear(4, 0);
        doc.due("no order that all bear", x.settle(7), NamesInRow.NONE);
        for (int person = 0; person < 7; person++) {
            doc.due("name of one who stands there", x.name(7, person), NamesInRow.STATE);
        }
        doc.due("swap of the last", x.swap(7, 6), NamesInRow.OUTSIDE);
        for (int i = 0; i < 7; i++) {
            doc.due("at(7, " + i + ")", x.at(7, i), 6 - i);
        }
        doc.due("none is behind them", x.at(7, 7), NamesInRow.NONE);
        doc.due("names in all rows", x.count(1), 7);
    }
}
