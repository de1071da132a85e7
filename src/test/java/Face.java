import java.lang.reflect.Method;
import java.util.ArrayList;
import java.util.List;
import java.util.Random;

/** The calls of the face: which numbers each takes, and what it answers to others. */
final class Face {
    /**
     * A call and its numbers: U and O tell the least and the greatest that is taken and what is
     * refused otherwise (UNKNOWN, OUTSIDE), i is a place that may be any number, b a boolean, and
     * = a number that stays.
     */
    private static final String[] ROWS = {
        "trade U0..7 O0..2",
        "task U0..7 U0..3 =0 O0..9",
        "task U0..7 U0..3 =1 O0..50",
        "task U0..7 U0..3 O0..1 =0",
        "hours U0..7 U0..3 U0..6 O0..9",
        "name U0..7 U0..6",
        "unname U0..7",
        "at U0..7 i",
        // As in a ROW of all seven.
        "swap U0..7 O0..5",
        "share U0..7 U0..6 b",
        "gifts U0..7 b",
        "gift U0..7 b i",
        "room O0..2 U0..6",
        "due U0..7 O0..3 i",
        "fits U0..7",
        "learn O0..2",
        "off U0..7 O0..3",
        "worth U0..7 O0..4 i b",
        "score U0..6 O0..4 b",
        "ahead U0..6 U0..6",
        "rank O0..4 i",
        "claim U0..7 U0..6 O0..100",
        "over U0..7",
        "gets U0..7 U0..6 O0..2 b",
        "unfair U0..7 O0..2 b",
        "fairest U0..7",
        "mind U0..6 U0..6 O0..9",
        "bear U0..6 O0..60",
        "quarrel U0..7 b",
        "peace O0..127",
        "peaceAt O0..127 i",
        "settle U0..7",
        "owed U0..6 O-1..2",
        "next O0..127 O-1..2 i",
        "keep U0..7 O0..100",
        "cost U0..7 O0..100",
        "count O0..3"};

    private Face() {
    }

    static List<Call> calls() {
        List<Call> calls = new ArrayList<>();
        for (String row : ROWS) {
            calls.add(new Call(row.split(" ")));
        }
        return calls;
    }

    static boolean isRefusal(long answer) {
        return answer <= NamesInRow.UNKNOWN && answer >= NamesInRow.FULL;
    }

    /** What one of the numbers of a call may be. */
    static final class Range {
        final char kind;
        final int least;
        final int greatest;

        Range(String word) {
            kind = word.charAt(0);
            String[] ends = word.substring(1).split("\\.\\.");
            least = kind == 'i' || kind == 'b' ? 0 : Integer.parseInt(ends[0]);
            greatest = kind == 'i' ? 6 : kind == 'b' ? 1 : Integer.parseInt(ends[ends.length - 1]);
        }

        boolean isRefusable() {
            return kind == 'U' || kind == 'O';
        }

        /** Those next to the least and the greatest, the ends of int, and what would wrap around. */
        int[] wrongOnes() {
            return new int[] {least - 1, greatest + 1, Integer.MIN_VALUE, Integer.MAX_VALUE, greatest + (1 << 8),
                least + (1 << 8), least + (1 << 16), least + (1 << 31), -100};
        }
    }

    static final class Call {
        final String name;
        final Range[] numbers;
        private final Method method;

        Call(String[] words) {
            name = words[0];
            numbers = new Range[words.length - 1];
            Class<?>[] types = new Class<?>[numbers.length];
            for (int i = 0; i < numbers.length; i++) {
                numbers[i] = new Range(words[i + 1]);
                types[i] = numbers[i].kind == 'b' ? boolean.class : int.class;
            }
            try {
                method = NamesInRow.class.getMethod(name, types);
            } catch (NoSuchMethodException missing) {
                throw new IllegalStateException(missing);
            }
        }

        /** Whether it asks and changes nothing, even if it is not refused. */
        boolean isQuestion() {
            return !List.of("trade", "task", "hours", "name", "unname", "swap", "room", "claim", "mind", "bear", "settle")
                    .contains(name);
        }

        /** The first that the call names: all name UNKNOWN ahead of OUTSIDE, but for room. */
        long refusal(boolean isUnknown, boolean isOutside) {
            if (name.equals("room")) {
                return isOutside ? NamesInRow.OUTSIDE : NamesInRow.UNKNOWN;
            }
            return isUnknown ? NamesInRow.UNKNOWN : NamesInRow.OUTSIDE;
        }

        /** Numbers that are all taken: the least ones and the greatest in turn. */
        int[] taken(boolean greatestFirst) {
            int[] taken = new int[numbers.length];
            for (int i = 0; i < taken.length; i++) {
                taken[i] = i % 2 == 0 == greatestFirst ? numbers[i].greatest : numbers[i].least;
            }
            return taken;
        }

        /** Numbers that are all taken, by chance. */
        int[] anyTaken(Random random) {
            int[] taken = new int[numbers.length];
            for (int i = 0; i < taken.length; i++) {
                taken[i] = numbers[i].least + random.nextInt(numbers[i].greatest - numbers[i].least + 1);
            }
            return taken;
        }

        long on(NamesInRow x, int... with) {
            Object[] given = new Object[with.length];
            for (int i = 0; i < with.length; i++) {
                given[i] = numbers[i].kind == 'b' ? (Object) (with[i] != 0) : (Object) with[i];
            }
            try {
                return ((Number) method.invoke(x, given)).longValue();
            } catch (ReflectiveOperationException thrown) {
                throw new IllegalStateException(told(with), thrown);
            }
        }

        String told(int... with) {
            StringBuilder text = new StringBuilder(name).append('(');
            for (int i = 0; i < with.length; i++) {
                text.append(i == 0 ? "" : ", ").append(numbers[i].kind == 'b' ? String.valueOf(with[i] != 0) : with[i]);
            }
            return text.append(')').toString();
        }
    }
}
