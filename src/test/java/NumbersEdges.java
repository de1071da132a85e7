import java.util.List;

/** Of every call and every number: the least and the greatest, those next to them, and several wrong at once. */
final class NumbersEdges {
    private final Sentences doc;

    NumbersEdges(Sentences doc) {
        this.doc = doc;
    }

    void run() {
        doc.term("UNKNOWN (there is no such PERSON, PAPER, TASK), OUTSIDE (another number is not as told), STATE (as told), FULL.");
        for (Face.Call call : Face.calls()) {
            for (int i = 0; i < call.numbers.length; i++) {
                if (call.numbers[i].isRefusable()) {
                    taken(call, i, true);
                    taken(call, i, false);
                    nextToThem(call, i, true);
                    nextToThem(call, i, false);
                }
            }
        }
        stateAsTold();
        doc.term("REFUSALS, of several the first that a call names:");
        for (Face.Call call : Face.calls()) {
            for (int which = 1; which < 1 << call.numbers.length; which++) {
                several(call, which, true);
                several(call, which, false);
            }
        }
        stateBehindOthers();
    }

    /** A new object; with all seven in every ROW, where a call asks for places that are there. */
    private static NamesInRow objectFor(Face.Call call) {
        NamesInRow x = new NamesInRow();
        for (int paper = 0; paper < 8 && call.name.equals("swap"); paper++) {
            Build.row(x, paper, 0, 1, 2, 3, 4, 5, 6);
        }
        return x;
    }

    private void taken(Face.Call call, int i, boolean greatestFirst) {
        int[] with = call.taken(greatestFirst);
        for (int v = call.numbers[i].least; v <= call.numbers[i].greatest; v++) {
            with[i] = v;
            if (!(call.name.equals("mind") && with[0] == with[1])) {
                doc.isTrue(call.told(with) + " is taken", !Face.isRefusal(call.on(objectFor(call), with)));
            }
        }
    }

    private void nextToThem(Face.Call call, int i, boolean greatestFirst) {
        int[] with = call.taken(greatestFirst);
        for (int wrong : call.numbers[i].wrongOnes()) {
            with[i] = wrong;
            boolean isUnknown = call.numbers[i].kind == 'U';
            doc.due(call.told(with), call.on(objectFor(call), with), isUnknown ? NamesInRow.UNKNOWN : NamesInRow.OUTSIDE);
        }
    }

    /** The bits of which tell the numbers that are wrong; places, where wrong, are not there. */
    private void several(Face.Call call, int which, boolean greatestFirst) {
        boolean isUnknown = false;
        boolean isOutside = false;
        for (int i = 0; i < call.numbers.length; i++) {
            boolean isWrong = (which >> i & 1) == 1;
            if (isWrong && (call.numbers[i].kind == 'b' || call.numbers[i].kind == '=')) {
                return;
            }
            isUnknown |= isWrong && call.numbers[i].kind == 'U';
            isOutside |= isWrong && call.numbers[i].kind == 'O';
        }
        if (!isUnknown && !isOutside) {
            return;
        }
        for (int turn = 0; turn < 9; turn++) {
            int[] with = call.taken(greatestFirst);
            for (int i = 0; i < with.length; i++) {
                if ((which >> i & 1) == 1) {
                    with[i] = call.numbers[i].wrongOnes()[(turn + i) % 9];
                }
            }
            doc.due(call.told(with), call.on(objectFor(call), with), call.refusal(isUnknown, isOutside));
        }
    }

    private void stateAsTold() {
        for (int person = 0; person < 7; person++) {
            NamesInRow x = new NamesInRow();
            x.name(7, person);
            doc.due("name of one who stands there", x.name(7, person), NamesInRow.STATE);
            doc.due("mind of oneself", x.mind(person, person, 9), NamesInRow.STATE);
            doc.due("mind of oneself", x.mind(person, person, 0), NamesInRow.STATE);
        }
    }

    private void stateBehindOthers() {
        NamesInRow x = new NamesInRow();
        Build.row(x, 0, 0, 1, 2, 3, 4, 5, 6);
        for (int person : List.of(-1, 7, -9)) {
            doc.due("nobody comes to a row of all seven", x.name(0, person), NamesInRow.UNKNOWN);
            doc.due("nobody minds nobody", x.mind(person, person, 0), NamesInRow.UNKNOWN);
            doc.due("nobody minds nobody too much", x.mind(person, person, 10), NamesInRow.UNKNOWN);
        }
        for (int person = 0; person < 7; person++) {
            doc.due("one who stands on another paper", x.name(8, person), NamesInRow.UNKNOWN);
            doc.due("oneself too much", x.mind(person, person, 10), NamesInRow.OUTSIDE);
            doc.due("oneself too little", x.mind(person, person, -1), NamesInRow.OUTSIDE);
        }
    }
}
