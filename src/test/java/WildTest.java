import java.util.List;

/** Every call with wild numbers in every mixture: none throws, and each is refused as it should be. */
public final class WildTest {
    private static final Check CHECK = new Check("WildTest");
    private static final int[] WILD = {Integer.MIN_VALUE, Integer.MIN_VALUE + 1, -65536, -1000, -10, -9, -3, -2, -1, 0, 1, 2,
        3, 4, 5, 6, 7, 8, 9, 10, 31, 32, 50, 51, 60, 61, 100, 101, 127, 128, 256, 65536, 1 << 30, Integer.MAX_VALUE};

    // An object answers 512 calls; some of them build it.
    private static final int CALLS_OF_AN_OBJECT = 400;

    private static NamesInRow x;
    private static int made = 0;

    public static void main(String[] args) {
        List<Face.Call> calls = Face.calls();
        for (Face.Call call : calls) {
            mix(call, new int[call.numbers.length], 0);
        }
        CHECK.isTrue("all calls were made", made > 100000);
        CHECK.end();
    }

    private static void mix(Face.Call call, int[] with, int i) {
        if (i == with.length) {
            make(call, with);
            return;
        }
        int[] numbers = call.numbers[i].kind == 'b' ? new int[] {0, 1}
                : call.numbers[i].kind == '=' ? new int[] {call.numbers[i].least} : WILD;
        for (int number : numbers) {
            with[i] = number;
            mix(call, with, i + 1);
        }
    }

    private static void make(Face.Call call, int[] with) {
        if (made % CALLS_OF_AN_OBJECT == 0) {
            x = built(made / CALLS_OF_AN_OBJECT);
        }
        made++;
        long answer = call.on(x, with);
        boolean isUnknown = false;
        boolean isOutside = false;
        for (int i = 0; i < with.length; i++) {
            boolean isNobody = call.name.equals("room") && i == 1 && with[i] == NamesInRow.NONE;
            boolean isWrong = !isNobody && (with[i] < call.numbers[i].least || with[i] > call.numbers[i].greatest);
            isUnknown |= isWrong && call.numbers[i].kind == 'U';
            isOutside |= isWrong && call.numbers[i].kind == 'O';
        }
        if (isUnknown || isOutside) {
            CHECK.due(call.told(with), answer, call.refusal(isUnknown, isOutside));
        } else {
            CHECK.isTrue(call.told(with) + " answered " + answer, isAnswer(call, with, answer));
        }
    }

    /** Of numbers that are taken; what it is, other tests look at. */
    private static boolean isAnswer(Face.Call call, int[] with, long answer) {
        switch (call.name) {
            case "name":
                return answer >= 1 && answer <= 7 || answer == NamesInRow.STATE;
            case "swap":
                return answer >= 0 && answer <= 6 || answer == NamesInRow.OUTSIDE;
            case "mind":
                return with[0] == with[1] ? answer == NamesInRow.STATE : answer >= 0 && answer <= 9;
            case "at", "gift", "room", "due", "rank", "peaceAt", "next":
                return answer >= 0 && answer <= 6 || answer == NamesInRow.NONE;
            case "peace", "settle":
                return answer >= 0 || answer == NamesInRow.NONE;
            default:
                return answer >= 0;
        }
    }

    private static NamesInRow built(int turn) {
        NamesInRow y = Build.allMind(new NamesInRow(), turn % 10);
        int paper = turn % 8;
        Build.row(y, paper, 6, turn % 6, (turn + 2) % 6);
        Build.hours(y, paper, turn % 4, 1, 2, 3, 4, 5, 6, 7);
        Build.claims(y, paper, 50, 60, turn % 101);
        Build.weights(y, paper, 1, 2, 3, 4);
        y.bear(turn % 7, turn % 61);
        y.room(0, turn % 7);
        return y;
    }
}
