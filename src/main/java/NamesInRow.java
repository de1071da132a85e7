/**
 * Papers, the people who stand in a row on top of them, and what each of them did.
 * The numbered promises of the document say what every call answers.
 */
public final class NamesInRow {
    public static final int UNKNOWN = -1, OUTSIDE = -2, STATE = -3, FULL = -4, NONE = -9;

    private static final int PEOPLE = 7, PAPERS = 8, TASKS = 4, TRADES = 3, SETS = 128;
    private static final int MOST_WEIGHT = 9, MOST_COST = 50, MOST_HOURS = 9, MOST_CLAIM = 100;
    private static final int MOST_MINDED = 9, MOST_BORNE = 60, HUNDRED = 100, THOUSAND = 1000;
    private static final int CUSTOMS = 4, BY_SHARE = 0, BY_NAME = 1, BY_ROOM = 2, BY_ENDS = 3;
    private static final int WAYS = 5, ALL = 0, EVEN = 1, FIRST = 2, FALLING = 3, DONE = 4;
    private static final int RULES = 3, PARTS = 0, CAPS = 1;
    private static final int ALL_TRADES = -1;

    // Far above the 92 steps that the greatest common divisor of two longs can take.
    private static final int MOST_DIVISIONS = 100;

    // Above all that seven people can mind together (21 pairs of 9 each).
    private static final int UNBEARABLE = 1000;

    // By each WAY, a lower part that serves every place in rows of 1 to 7, so that worths of
    // one WAY are whole numbers that can be added and compared. FALLING has 9*25*49*121*137.
    private static final long[] UNITS = {1, 420, 120, 182761425, 1000};

    // Every place from 1 to 7 divides it.
    private static final int PLACES_LOWER = 420;

    private final Paper[] papers = new Paper[PAPERS];
    private final int[] roomHolders = new int[TRADES];
    private final int[] dues = new int[PEOPLE];
    private final Arrangement arrangement = new Arrangement();
    private final Division division = new Division();
    private final Quarrels quarrels = new Quarrels();
    private final Ranking ranking = new Ranking();

    public NamesInRow() {
        for (int i = 0; i < PAPERS; i++) {
            papers[i] = new Paper();
        }
        for (int i = 0; i < TRADES; i++) {
            roomHolders[i] = NONE;
        }
    }

    // ---- papers

    public int trade(int paper, int v) {
        if (!isPaper(paper)) {
            return UNKNOWN;
        }
        if (!isTrade(v)) {
            return OUTSIDE;
        }
        int was = papers[paper].tradeNumber;
        papers[paper].tradeNumber = v;
        return was;
    }

    public int task(int paper, int task, int what, int v) {
        if (!isPaper(paper) || !isTask(task)) {
            return UNKNOWN;
        }
        if (what != 0 && what != 1) {
            return OUTSIDE;
        }
        if (!isWithin(v, what == 0 ? MOST_WEIGHT : MOST_COST)) {
            return OUTSIDE;
        }
        int[] numbers = what == 0 ? papers[paper].weights : papers[paper].costs;
        int was = numbers[task];
        numbers[task] = v;
        papers[paper].reckonShares();
        return was;
    }

    public int hours(int paper, int task, int person, int v) {
        if (!isPaper(paper) || !isTask(task) || !isPerson(person)) {
            return UNKNOWN;
        }
        if (!isWithin(v, MOST_HOURS)) {
            return OUTSIDE;
        }
        int[] worked = papers[paper].worked[task];
        int was = worked[person];
        worked[person] = v;
        papers[paper].reckonShares();
        return was;
    }

    public int name(int paper, int person) {
        if (!isPaper(paper) || !isPerson(person)) {
            return UNKNOWN;
        }
        Row row = papers[paper].row;
        if (row.holds(person)) {
            return STATE;
        }
        row.append(person);
        return row.size;
    }

    public int unname(int paper) {
        if (!isPaper(paper)) {
            return UNKNOWN;
        }
        Row row = papers[paper].row;
        int stood = row.size;
        row.size = 0;
        return stood;
    }

    public int at(int paper, int i) {
        if (!isPaper(paper)) {
            return UNKNOWN;
        }
        return papers[paper].row.personAt(i);
    }

    public int swap(int paper, int i) {
        if (!isPaper(paper)) {
            return UNKNOWN;
        }
        Row row = papers[paper].row;
        if (i < 0 || i >= row.size - 1) {
            return OUTSIDE;
        }
        row.changeAbout(i);
        return row.personAt(i);
    }

    public long share(int paper, int person, boolean upper) {
        if (!isPaper(paper) || !isPerson(person)) {
            return UNKNOWN;
        }
        return inLeastTerms(papers[paper].parts[person], papers[paper].whole, upper);
    }

    public int gifts(int paper, boolean ghosts) {
        if (!isPaper(paper)) {
            return UNKNOWN;
        }
        int found = 0;
        for (int i = 0; i < PEOPLE; i++) {
            if (isFound(papers[paper], ghosts, i)) {
                found++;
            }
        }
        return found;
    }

    public int gift(int paper, boolean ghosts, int i) {
        if (!isPaper(paper)) {
            return UNKNOWN;
        }
        int found = 0;
        for (int j = 0; j < PEOPLE; j++) {
            if (isFound(papers[paper], ghosts, j)) {
                if (found == i) {
                    return ghosts ? j : papers[paper].row.personAt(j);
                }
                found++;
            }
        }
        return NONE;
    }

    /** Whether a GHOST has the number i, or a GIFT stands at the place i. */
    private static boolean isFound(Paper paper, boolean ghosts, int i) {
        return ghosts ? paper.isGhost(i) : paper.isGiftAt(i);
    }

    // ---- customs

    public int room(int trade, int person) {
        if (!isTrade(trade)) {
            return OUTSIDE;
        }
        if (person != NONE && !isPerson(person)) {
            return UNKNOWN;
        }
        int was = roomHolders[trade];
        roomHolders[trade] = person;
        return was;
    }

    public int due(int paper, int custom, int i) {
        if (!isPaper(paper)) {
            return UNKNOWN;
        }
        if (!isCustom(custom)) {
            return OUTSIDE;
        }
        return arranged(papers[paper], custom).personAt(i);
    }

    public int fits(int paper) {
        if (!isPaper(paper)) {
            return UNKNOWN;
        }
        return fittingCustoms(papers[paper]);
    }

    public int learn(int trade) {
        if (!isTrade(trade)) {
            return OUTSIDE;
        }
        int fitting = (1 << CUSTOMS) - 1;
        for (int i = 0; i < PAPERS; i++) {
            if (papers[i].tradeNumber == trade) {
                fitting &= fittingCustoms(papers[i]);
            }
        }
        return fitting;
    }

    public int off(int paper, int custom) {
        if (!isPaper(paper)) {
            return UNKNOWN;
        }
        if (!isCustom(custom)) {
            return OUTSIDE;
        }
        return papers[paper].row.pairsUnlike(arranged(papers[paper], custom));
    }

    private Row arranged(Paper paper, int custom) {
        return arrangement.arrange(paper, custom, roomHolders[paper.tradeNumber]);
    }

    private int fittingCustoms(Paper paper) {
        int fitting = 0;
        for (int custom = 0; custom < CUSTOMS; custom++) {
            if (paper.row.placesUnlike(arranged(paper, custom)) == 0) {
                fitting |= 1 << custom;
            }
        }
        return fitting;
    }

    // ---- counting

    public long worth(int paper, int way, int i, boolean upper) {
        if (!isPaper(paper)) {
            return UNKNOWN;
        }
        if (!isWay(way)) {
            return OUTSIDE;
        }
        return inLeastTerms(placeUnits(papers[paper], way, i), UNITS[way], upper);
    }

    public long score(int person, int way, boolean upper) {
        if (!isPerson(person)) {
            return UNKNOWN;
        }
        if (!isWay(way)) {
            return OUTSIDE;
        }
        return inLeastTerms(scoreUnits(person, way), UNITS[way], upper);
    }

    public int ahead(int person, int other) {
        if (!isPerson(person) || !isPerson(other)) {
            return UNKNOWN;
        }
        int ways = 0;
        for (int way = 0; way < WAYS; way++) {
            if (scoreUnits(person, way) > scoreUnits(other, way)) {
                ways |= 1 << way;
            }
        }
        return ways;
    }

    public int rank(int way, int i) {
        if (!isWay(way)) {
            return OUTSIDE;
        }
        ranking.row.size = 0;
        for (int person = 0; person < PEOPLE; person++) {
            ranking.put(person, scoreUnits(person, way));
        }
        return ranking.row.personAt(i);
    }

    private long scoreUnits(int person, int way) {
        long sum = 0;
        for (int i = 0; i < PAPERS; i++) {
            sum += placeUnits(papers[i], way, papers[i].row.placeOf(person));
        }
        return sum;
    }

    /** What a place is worth as a number of the WAY's UNITS; 0 of a place that is not there. */
    private static long placeUnits(Paper paper, int way, int place) {
        int size = paper.row.size;
        if (place < 0 || place >= size) {
            return 0;
        }
        switch (way) {
            case ALL:
                return UNITS[ALL];
            case EVEN:
                return UNITS[EVEN] / size;
            case FIRST:
                return firstUnits(size, place);
            case FALLING:
                return fallingUnits(size, place);
            case DONE:
                return paper.thousandths(paper.row.personAt(place));
            default:
                return 0;
        }
    }

    private static long firstUnits(int size, int place) {
        if (size < 2) {
            return UNITS[FIRST];
        }
        long half = UNITS[FIRST] / 2;
        return place == 0 ? half : half / (size - 1);
    }

    private static long fallingUnits(int size, int place) {
        int all = 0;
        int own = 0;
        for (int i = 0; i < size; i++) {
            int part = PLACES_LOWER / (i + 1);
            all += part;
            if (i == place) {
                own = part;
            }
        }
        return all > 0 ? UNITS[FALLING] * own / all : 0;
    }

    // ---- claims

    public int claim(int paper, int person, int v) {
        if (!isPaper(paper) || !isPerson(person)) {
            return UNKNOWN;
        }
        if (!isWithin(v, MOST_CLAIM)) {
            return OUTSIDE;
        }
        int[] claims = papers[paper].claims;
        int was = claims[person];
        claims[person] = v;
        return was;
    }

    public int over(int paper) {
        if (!isPaper(paper)) {
            return UNKNOWN;
        }
        return papers[paper].claimedOver() + THOUSAND;
    }

    public long gets(int paper, int person, int rule, boolean upper) {
        if (!isPaper(paper) || !isPerson(person)) {
            return UNKNOWN;
        }
        if (!isRule(rule)) {
            return OUTSIDE;
        }
        division.divide(papers[paper].claims, rule);
        return inLeastTerms(division.uppers[person], division.lower, upper);
    }

    public long unfair(int paper, int rule, boolean upper) {
        if (!isPaper(paper)) {
            return UNKNOWN;
        }
        if (!isRule(rule)) {
            return OUTSIDE;
        }
        division.divide(papers[paper].claims, rule);
        long apart = division.unfairUpper(papers[paper]);
        return inLeastTerms(apart, division.lower * papers[paper].whole, upper);
    }

    public int fairest(int paper) {
        if (!isPaper(paper)) {
            return UNKNOWN;
        }
        int best = 0;
        long bestUpper = 0;
        long bestLower = 0;
        for (int rule = 0; rule < RULES; rule++) {
            division.divide(papers[paper].claims, rule);
            long apart = division.unfairUpper(papers[paper]);
            // Both lower parts have the whole of the PAPER in them; left out, no product overflows.
            if (rule == 0 || apart * bestLower < bestUpper * division.lower) {
                best = rule;
                bestUpper = apart;
                bestLower = division.lower;
            }
        }
        return best;
    }

    // ---- quarrel

    public int mind(int person, int other, int v) {
        if (!isPerson(person) || !isPerson(other)) {
            return UNKNOWN;
        }
        if (!isWithin(v, MOST_MINDED)) {
            return OUTSIDE;
        }
        if (person == other) {
            return STATE;
        }
        int was = quarrels.minded[person][other];
        quarrels.minded[person][other] = v;
        return was;
    }

    public int bear(int person, int v) {
        if (!isPerson(person)) {
            return UNKNOWN;
        }
        if (!isWithin(v, MOST_BORNE)) {
            return OUTSIDE;
        }
        int was = quarrels.borne[person];
        quarrels.borne[person] = v;
        return was;
    }

    public int quarrel(int paper, boolean all) {
        if (!isPaper(paper)) {
            return UNKNOWN;
        }
        Row row = papers[paper].row;
        return all ? quarrels.mindedIn(row) : quarrels.unborneIn(row);
    }

    public int peace(int set) {
        if (!isSet(set)) {
            return OUTSIDE;
        }
        return quarrels.makePeace(set) ? quarrels.mindedIn(quarrels.calm) : NONE;
    }

    public int peaceAt(int set, int i) {
        if (!isSet(set)) {
            return OUTSIDE;
        }
        return quarrels.makePeace(set) ? quarrels.calm.personAt(i) : NONE;
    }

    public int settle(int paper) {
        if (!isPaper(paper)) {
            return UNKNOWN;
        }
        Row row = papers[paper].row;
        if (!quarrels.makePeace(row.members())) {
            return NONE;
        }
        int moved = row.placesUnlike(quarrels.calm);
        row.copyFrom(quarrels.calm);
        return moved;
    }

    // ---- owed, files

    public int owed(int person, int trade) {
        if (!isPerson(person)) {
            return UNKNOWN;
        }
        if (!isTrade(trade) && trade != ALL_TRADES) {
            return OUTSIDE;
        }
        addUpDues(trade);
        return dues[person] + THOUSAND;
    }

    public int next(int set, int trade, int i) {
        if (!isSet(set)) {
            return OUTSIDE;
        }
        if (!isTrade(trade) && trade != ALL_TRADES) {
            return OUTSIDE;
        }
        addUpDues(trade);
        ranking.row.size = 0;
        for (int person = 0; person < PEOPLE; person++) {
            if (isIn(set, person)) {
                ranking.put(person, dues[person]);
            }
        }
        return ranking.row.personAt(i);
    }

    public int keep(int paper, int w) {
        if (!isPaper(paper)) {
            return UNKNOWN;
        }
        if (!isWithin(w, HUNDRED)) {
            return OUTSIDE;
        }
        return papers[paper].tasksToKeep(w);
    }

    public int cost(int paper, int w) {
        if (!isPaper(paper)) {
            return UNKNOWN;
        }
        if (!isWithin(w, HUNDRED)) {
            return OUTSIDE;
        }
        return papers[paper].costOf(papers[paper].tasksToKeep(w));
    }

    public int count(int what) {
        if (!isWithin(what, 3)) {
            return OUTSIDE;
        }
        int sum = 0;
        for (int i = 0; i < PAPERS; i++) {
            sum += counted(papers[i], what);
        }
        return sum;
    }

    private static int counted(Paper paper, int what) {
        switch (what) {
            case 0:
                return paper.row.size > 0 ? 1 : 0;
            case 1:
                return paper.row.size;
            case 2:
                return Integer.bitCount(paper.doneTasks);
            case 3:
                return paper.claimedOver() > 0 ? 1 : 0;
            default:
                return 0;
        }
    }

    /** What is OWED to all seven PEOPLE; each ROW is arranged once for all of them. */
    private void addUpDues(int trade) {
        for (int person = 0; person < PEOPLE; person++) {
            dues[person] = 0;
        }
        for (int i = 0; i < PAPERS; i++) {
            if (trade == ALL_TRADES || papers[i].tradeNumber == trade) {
                addDuesOf(papers[i]);
            }
        }
    }

    private void addDuesOf(Paper paper) {
        // Nobody's ROOM matters BY SHARE.
        Row byShare = arrangement.arrange(paper, BY_SHARE, NONE);
        for (int person = 0; person < PEOPLE; person++) {
            if (paper.row.holds(person)) {
                dues[person] += paper.row.placeOf(person) - byShare.placeOf(person);
            }
        }
    }

    // ---- what numbers are as told

    private static boolean isWithin(int v, int most) {
        return v >= 0 && v <= most;
    }

    private static boolean isPerson(int person) {
        return person >= 0 && person < PEOPLE;
    }

    private static boolean isPaper(int paper) {
        return paper >= 0 && paper < PAPERS;
    }

    private static boolean isTask(int task) {
        return task >= 0 && task < TASKS;
    }

    private static boolean isTrade(int trade) {
        return trade >= 0 && trade < TRADES;
    }

    private static boolean isCustom(int custom) {
        return custom >= 0 && custom < CUSTOMS;
    }

    private static boolean isWay(int way) {
        return way >= 0 && way < WAYS;
    }

    private static boolean isRule(int rule) {
        return rule >= 0 && rule < RULES;
    }

    private static boolean isSet(int set) {
        return set >= 0 && set < SETS;
    }

    private static boolean isIn(int set, int member) {
        return (set >> member & 1) == 1;
    }

    // ---- fractions

    private static long inLeastTerms(long above, long below, boolean upper) {
        long divisor = commonDivisor(above, below);
        long told = upper ? above : below;
        return divisor > 1 ? told / divisor : told;
    }

    private static long commonDivisor(long a, long b) {
        long greater = a;
        long lesser = b;
        for (int i = 0; i < MOST_DIVISIONS && lesser != 0; i++) {
            long rest = greater % lesser;
            greater = lesser;
            lesser = rest;
        }
        return greater;
    }

    /** PEOPLE in an order, none twice. */
    private static final class Row {
        final int[] people = new int[PEOPLE];
        int size;

        int personAt(int place) {
            return place >= 0 && place < size ? people[place] : NONE;
        }

        int placeOf(int person) {
            for (int i = 0; i < size; i++) {
                if (people[i] == person) {
                    return i;
                }
            }
            return NONE;
        }

        boolean holds(int person) {
            return placeOf(person) != NONE;
        }

        void append(int person) {
            if (size < PEOPLE) {
                people[size] = person;
                size++;
            }
        }

        void changeAbout(int place) {
            if (place >= 0 && place < size - 1) {
                int first = people[place];
                people[place] = people[place + 1];
                people[place + 1] = first;
            }
        }

        void copyFrom(Row other) {
            for (int i = 0; i < PEOPLE; i++) {
                people[i] = other.people[i];
            }
            size = other.size;
        }

        int members() {
            int set = 0;
            for (int i = 0; i < size; i++) {
                set |= 1 << people[i];
            }
            return set;
        }

        int placesUnlike(Row other) {
            int unlike = 0;
            for (int i = 0; i < PEOPLE; i++) {
                if (personAt(i) != other.personAt(i)) {
                    unlike++;
                }
            }
            return unlike;
        }

        int pairsUnlike(Row other) {
            int unlike = 0;
            for (int i = 0; i < size; i++) {
                for (int j = i + 1; j < size; j++) {
                    if (other.placeOf(people[i]) > other.placeOf(people[j])) {
                        unlike++;
                    }
                }
            }
            return unlike;
        }
    }

    /** PEOPLE by a number each, the greatest first; of like ones the lesser PERSON. */
    private static final class Ranking {
        final Row row = new Row();
        final long[] numbers = new long[PEOPLE];

        void put(int person, long number) {
            if (!isPerson(person)) {
                return;
            }
            numbers[person] = number;
            row.append(person);
            for (int place = row.size - 2; place >= 0 && isLess(place, person); place--) {
                row.changeAbout(place);
            }
        }

        private boolean isLess(int place, int person) {
            int standing = row.people[place];
            if (numbers[standing] != numbers[person]) {
                return numbers[standing] < numbers[person];
            }
            return standing > person;
        }
    }

    /** One PAPER: its TASKS, its ROW and its CLAIMS. */
    private static final class Paper {
        int tradeNumber;
        final int[] weights = new int[TASKS];
        final int[] costs = new int[TASKS];
        final int[][] worked = new int[TASKS][PEOPLE];
        final int[] claims = new int[PEOPLE];
        final Row row = new Row();

        // TASKS that are DONE, as bits, and their WEIGHTS together.
        int doneTasks;
        int doneWeight;

        // SHARES: an upper part for each PERSON, one lower for all, at most 36 times 63^4.
        final long[] parts = new long[PEOPLE];
        long whole = 1;

        Paper() {
            weights[0] = 1;
            for (int task = 0; task < TASKS; task++) {
                costs[task] = 1;
            }
        }

        /** After each change of a WEIGHT or of HOURS: SHARES are asked for far more often. */
        void reckonShares() {
            doneTasks = 0;
            doneWeight = 0;
            long product = 1;
            for (int task = 0; task < TASKS; task++) {
                int all = hoursIn(task);
                if (weights[task] > 0 && all > 0) {
                    doneTasks |= 1 << task;
                    doneWeight += weights[task];
                    product *= all;
                }
            }
            whole = doneTasks == 0 ? 1 : doneWeight * product;
            fillParts(product);
        }

        private void fillParts(long product) {
            for (int person = 0; person < PEOPLE; person++) {
                parts[person] = 0;
            }
            for (int task = 0; task < TASKS; task++) {
                int all = hoursIn(task);
                if (isIn(doneTasks, task) && all > 0) {
                    addParts(worked[task], product / all * weights[task]);
                }
            }
        }

        private void addParts(int[] hours, long anHour) {
            for (int person = 0; person < PEOPLE; person++) {
                parts[person] += hours[person] * anHour;
            }
        }

        private int hoursIn(int task) {
            int sum = 0;
            for (int person = 0; person < PEOPLE; person++) {
                sum += worked[task][person];
            }
            return sum;
        }

        long thousandths(int person) {
            return isPerson(person) && whole > 0 ? parts[person] * THOUSAND / whole : 0;
        }

        boolean isGiftAt(int place) {
            int person = row.personAt(place);
            return isPerson(person) && parts[person] == 0;
        }

        boolean isGhost(int person) {
            return isPerson(person) && !row.holds(person) && parts[person] > 0;
        }

        int claimedOver() {
            int sum = 0;
            for (int person = 0; person < PEOPLE; person++) {
                sum += claims[person];
            }
            return sum - HUNDRED;
        }

        private boolean isKnown(int kept, int w) {
            int lost = 0;
            for (int task = 0; task < TASKS; task++) {
                if (isIn(doneTasks, task) && !isIn(kept, task)) {
                    lost += weights[task];
                }
            }
            return lost * HUNDRED <= w * doneWeight;
        }

        int costOf(int kept) {
            int sum = 0;
            for (int task = 0; task < TASKS; task++) {
                if (isIn(kept, task)) {
                    sum += costs[task];
                }
            }
            return sum;
        }

        int tasksToKeep(int w) {
            int best = (1 << TASKS) - 1;
            // Downwards, so that of like ones the least number is the last to be taken.
            for (int kept = best - 1; kept >= 0; kept--) {
                if (isKnown(kept, w) && !isDearer(kept, best)) {
                    best = kept;
                }
            }
            return best;
        }

        private boolean isDearer(int kept, int than) {
            int ownCost = costOf(kept);
            int otherCost = costOf(than);
            if (ownCost != otherCost) {
                return ownCost > otherCost;
            }
            return Integer.bitCount(kept) > Integer.bitCount(than);
        }
    }

    /** A ROW put in order by a CUSTOM. What it hands out lasts until it arranges again. */
    private static final class Arrangement {
        private final Ranking sorted = new Ranking();
        private final Row result = new Row();

        Row arrange(Paper paper, int custom, int roomHolder) {
            sort(paper, custom == BY_NAME);
            result.copyFrom(sorted.row);
            if (custom == BY_ROOM) {
                putLast(roomHolder);
            }
            if (custom == BY_ENDS) {
                spreadToEnds();
            }
            return result;
        }

        /** All are alike by NAME, so that their numbers alone put them in order. */
        private void sort(Paper paper, boolean byName) {
            sorted.row.size = 0;
            for (int i = 0; i < paper.row.size; i++) {
                int person = paper.row.people[i];
                sorted.put(person, byName ? 0 : paper.parts[person]);
            }
        }

        private void putLast(int person) {
            int place = result.placeOf(person);
            if (place < 0) {
                return;
            }
            for (int i = place; i < result.size - 1; i++) {
                result.changeAbout(i);
            }
        }

        private void spreadToEnds() {
            int size = sorted.row.size;
            for (int i = 0; i < size; i++) {
                int place = i % 2 == 0 ? i / 2 : size - 1 - i / 2;
                result.people[place] = sorted.row.people[i];
            }
        }
    }

    /** CLAIMS brought down to 100 by a RULE: an upper part for each PERSON, one lower for all. */
    private static final class Division {
        final int[] uppers = new int[PEOPLE];
        int lower = 1;
        private final int[] falling = new int[PEOPLE];

        void divide(int[] claims, int rule) {
            sortFalling(claims);
            int all = sumOfFirst(PEOPLE);
            if (all <= HUNDRED) {
                takeAsSaid(claims);
            } else if (rule == PARTS) {
                takeParts(claims, all);
            } else if (rule == CAPS) {
                takeCapped(claims, all);
            } else {
                takeLess(claims);
            }
        }

        /** How far all are from their SHARES, above lower times the whole of the PAPER. */
        long unfairUpper(Paper paper) {
            long sum = 0;
            for (int person = 0; person < PEOPLE; person++) {
                long got = uppers[person] * paper.whole;
                long did = paper.parts[person] * HUNDRED * lower;
                sum += Math.abs(got - did);
            }
            return sum;
        }

        private void takeAsSaid(int[] claims) {
            lower = 1;
            for (int person = 0; person < PEOPLE; person++) {
                uppers[person] = claims[person];
            }
        }

        private void takeParts(int[] claims, int all) {
            lower = all;
            for (int person = 0; person < PEOPLE; person++) {
                uppers[person] = claims[person] * HUNDRED;
            }
        }

        /** The cap is what those below it leave of 100, even to the rest. */
        private void takeCapped(int[] claims, int all) {
            int capped = PEOPLE;
            while (capped > 1 && falling[capped - 1] * capped < leftBelow(capped, all)) {
                capped--;
            }
            int cap = leftBelow(capped, all);
            lower = capped;
            for (int person = 0; person < PEOPLE; person++) {
                uppers[person] = Math.min(claims[person] * capped, cap);
            }
        }

        private int leftBelow(int first, int all) {
            return HUNDRED - (all - sumOfFirst(first));
        }

        /** The loss is what those who keep something say above 100, even to them. */
        private void takeLess(int[] claims) {
            int losing = 1;
            while (losing < PEOPLE && sumOfFirst(losing) - HUNDRED < falling[losing] * losing) {
                losing++;
            }
            int loss = sumOfFirst(losing) - HUNDRED;
            lower = losing;
            for (int person = 0; person < PEOPLE; person++) {
                uppers[person] = Math.max(claims[person] * losing - loss, 0);
            }
        }

        private int sumOfFirst(int first) {
            int sum = 0;
            for (int i = 0; i < first; i++) {
                sum += falling[i];
            }
            return sum;
        }

        private void sortFalling(int[] claims) {
            for (int i = 0; i < PEOPLE; i++) {
                int place = i;
                while (place > 0 && falling[place - 1] < claims[i]) {
                    falling[place] = falling[place - 1];
                    place--;
                }
                falling[place] = claims[i];
            }
        }
    }

    /** What PEOPLE mind and BEAR, and THE PEACE of a set of them. */
    private static final class Quarrels {
        final int[][] minded = new int[PEOPLE][PEOPLE];
        final int[] borne = new int[PEOPLE];
        final Row calm = new Row();

        // By the set of those who stand already: the least that the others of the set still mind.
        private final int[] stillMinded = new int[SETS];

        Quarrels() {
            for (int person = 0; person < PEOPLE; person++) {
                borne[person] = MOST_BORNE;
            }
        }

        private int mindedBehind(int person, int set) {
            int sum = 0;
            for (int other = 0; other < PEOPLE; other++) {
                if (isIn(set, other)) {
                    sum += minded[person][other];
                }
            }
            return sum;
        }

        int mindedIn(Row row) {
            int sum = 0;
            int before = 0;
            for (int i = 0; i < row.size; i++) {
                int person = row.people[i];
                sum += mindedBehind(person, before);
                before |= 1 << person;
            }
            return sum;
        }

        int unborneIn(Row row) {
            int unborne = 0;
            int before = 0;
            for (int i = 0; i < row.size; i++) {
                int person = row.people[i];
                if (mindedBehind(person, before) > borne[person]) {
                    unborne++;
                }
                before |= 1 << person;
            }
            return unborne;
        }

        /** Puts THE PEACE of a set into calm; false if there is none. */
        boolean makePeace(int set) {
            if (!isSet(set)) {
                return false;
            }
            // Downwards: a set with one more PERSON in it is a greater number.
            for (int before = set; before >= 0; before--) {
                if ((before & ~set) == 0) {
                    stillMinded[before] = before == set ? 0 : leastBehind(before, set);
                }
            }
            calm.size = 0;
            if (stillMinded[0] >= UNBEARABLE) {
                return false;
            }
            lineUp(set);
            return true;
        }

        private int leastBehind(int before, int set) {
            int least = UNBEARABLE;
            for (int person = 0; person < PEOPLE; person++) {
                if (isIn(set, person) && !isIn(before, person)) {
                    least = Math.min(least, mindedFrom(person, before));
                }
            }
            return least;
        }

        /** The least that is minded from here on, if this PERSON comes next. */
        private int mindedFrom(int person, int before) {
            int own = mindedBehind(person, before);
            return own > borne[person] ? UNBEARABLE : own + stillMinded[before | 1 << person];
        }

        /** At each place the least number that still leads to the least of all. */
        private void lineUp(int set) {
            int before = 0;
            for (int place = 0; place < PEOPLE && before != set; place++) {
                int chosen = firstOfLeast(before, set);
                if (!isPerson(chosen)) {
                    return;
                }
                calm.append(chosen);
                before |= 1 << chosen;
            }
        }

        private int firstOfLeast(int before, int set) {
            for (int person = 0; person < PEOPLE; person++) {
                boolean isLeft = isIn(set, person) && !isIn(before, person);
                if (isLeft && mindedFrom(person, before) == stillMinded[before]) {
                    return person;
                }
            }
            return NONE;
        }
    }
}
