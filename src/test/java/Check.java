/** Counts and prints the answers that are not as due. */
final class Check {
    private final String test;
    private int checks = 0;
    private int wrong = 0;

    Check(String test) {
        this.test = test;
    }

    void due(String call, long got, long due) {
        checks++;
        if (got != due) {
            wrong++;
            System.out.println(test + ": " + call + " answered " + got + ", due is " + due);
        }
    }

    void dueFraction(String call, long gotUpper, long gotLower, long upper, long lower) {
        due(call + " above", gotUpper, upper);
        due(call + " below", gotLower, lower);
    }

    void isTrue(String what, boolean holds) {
        due(what, holds ? 1 : 0, 1);
    }

    void end() {
        System.out.println(test + ": " + checks + " checks, " + wrong + " wrong");
        if (wrong != 0 || checks == 0) {
            System.exit(1);
        }
    }
}
