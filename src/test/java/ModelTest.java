import java.lang.reflect.Method;
import java.util.ArrayList;
import java.util.List;
import java.util.Random;

/** Promises 1 to 36: long runs of calls, the same on the class and on the slow model. */
public final class ModelTest {
    private static final Check CHECK = new Check("ModelTest");
    private static final int RUNS = 160;
    private static final int CALLS = 512;
    private static final int[] WILD = {Integer.MIN_VALUE, Integer.MAX_VALUE, -1, -2, -9, 127, 128, 1000, 1 << 30, 0};

    /** A call, how often it comes in a building run, and the greatest of each number (b: a boolean). */
    private static final String[] CALLS_AND_RANGES = {
        "trade 2 7 2", "task 10 7 3 1 9", "hours 60 7 3 6 9", "name 40 7 6", "unname 1 7", "at 2 7 6", "swap 4 7 5",
        "share 4 7 6 b", "gifts 2 7 b", "gift 3 7 b 6", "room 3 2 6", "due 5 7 3 6", "fits 3 7", "learn 3 2",
        "off 4 7 3", "worth 4 7 4 6 b", "score 4 6 4 b", "ahead 3 6 6", "rank 5 4 6", "claim 20 7 6 100", "over 2 7",
        "gets 5 7 6 2 b", "unfair 5 7 2 b", "fairest 5 7", "mind 30 6 6 9", "bear 4 6 60", "quarrel 3 7 b",
        "peace 2 127", "peaceAt 2 127 6", "settle 2 7", "owed 4 6 2", "next 5 127 2 6", "keep 4 7 100", "cost 3 7 100",
        "count 2 3"};

    public static void main(String[] args) throws ReflectiveOperationException {
        Call[] calls = new Call[CALLS_AND_RANGES.length];
        for (int i = 0; i < calls.length; i++) {
            calls[i] = new Call(CALLS_AND_RANGES[i].split(" "));
        }
        CHECK.due("all calls of the face", calls.length, 35);
        for (int run = 0; run < RUNS; run++) {
            run(run, calls);
        }
        CHECK.end();
    }

    private static void run(int run, Call[] calls) throws ReflectiveOperationException {
        Random random = new Random(run);
        List<Call> often = new ArrayList<>();
        for (Call call : calls) {
            for (int i = 0; i < call.weight; i++) {
                often.add(call);
            }
        }
        // Some runs keep to few papers, so that these are full.
        int papers = run % 3 == 0 ? 7 : run % 3;
        int wildness = run % 4 == 0 ? 10 : 80;
        NamesInRow x = new NamesInRow();
        Model model = new Model();
        for (int i = 0; i < CALLS; i++) {
            Call call = often.get(random.nextInt(often.size()));
            call.makeOn(x, model, call.numbers(random, papers, wildness), run);
        }
    }

    private static final class Call {
        final String name;
        final int weight;
        final int[] most;
        final Method own;
        final Method models;

        Call(String[] words) throws ReflectiveOperationException {
            name = words[0];
            weight = Integer.parseInt(words[1]);
            most = new int[words.length - 2];
            Class<?>[] types = new Class<?>[most.length];
            for (int i = 0; i < most.length; i++) {
                boolean isBoolean = words[i + 2].equals("b");
                types[i] = isBoolean ? boolean.class : int.class;
                most[i] = isBoolean ? 1 : Integer.parseInt(words[i + 2]);
            }
            own = NamesInRow.class.getMethod(name, types);
            models = Model.class.getDeclaredMethod(name, types);
        }

        Object[] numbers(Random random, int papers, int wildness) {
            Object[] numbers = new Object[most.length];
            for (int i = 0; i < most.length; i++) {
                int greatest = i == 0 && most[0] == 7 ? papers : most[i];
                int v = random.nextInt(greatest + 1);
                if (name.equals("task") && i == 3 && (Integer) numbers[2] == 1) {
                    v = random.nextInt(4) == 0 ? 50 : random.nextInt(4);
                }
                if (name.equals("bear") && i == 1 && random.nextInt(2) == 0) {
                    v = random.nextInt(20);
                }
                if ((name.equals("owed") || name.equals("next")) && i == 1 && random.nextInt(3) == 0) {
                    v = -1;
                }
                if (random.nextInt(wildness) == 0) {
                    v = random.nextInt(3) == 0 ? WILD[random.nextInt(WILD.length)] : random.nextBoolean() ? -1 : most[i] + 1;
                }
                numbers[i] = own.getParameterTypes()[i] == boolean.class ? (Object) random.nextBoolean() : (Object) v;
            }
            return numbers;
        }

        void makeOn(NamesInRow x, Model model, Object[] numbers, int run) throws ReflectiveOperationException {
            long got = ((Number) own.invoke(x, numbers)).longValue();
            long due = ((Number) models.invoke(model, numbers)).longValue();
            CHECK.due("run " + run + ": " + name + java.util.Arrays.toString(numbers), got, due);
        }
    }
}
