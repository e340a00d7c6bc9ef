/**
 * A board of cards in columns with limits, and the merge queue of the changes that the cards name.
 *
 * <p>A set of changes is held as an int with the bit k for the change k; 30 changes fit.
 */
public final class Cardgate {
    public static final int NONE = -1;
    public static final int OPEN = 0, QUEUED = 1, IN = 2, REFUSED = 3;

    private static final int WAITING = 0, DOING = 1, REVIEW = 2, MERGING = 3, DONE = 4;
    private static final int COLUMNS = 5;
    private static final int MOST_CARDS = 20, MOST_CHANGES = 30;
    private static final int HIGHEST_RANK = 9, HIGHEST_WEIGHT = 9;
    private static final int FIRST_LIMIT = 3, HIGHEST_LIMIT = 9;
    private static final int LONGEST_ROW = 8;
    private static final int HOURS_OF_A_TRY = 5;

    private final Board board;
    private final Gate gate;
    private int hoursSoFar;

    public Cardgate() {
        board = new Board();
        gate = new Gate();
        hoursSoFar = 0;
    }

    // ---- cards

    public int card(int rank) throws IllegalArgumentException, IllegalStateException {
        requireRange(rank, 0, HIGHEST_RANK);
        if (board.count >= MOST_CARDS) {
            throw new IllegalStateException("there are 20 cards");
        }
        return board.add(rank);
    }

    public int name(int card, int change, boolean doesName)
            throws IndexOutOfBoundsException, IllegalStateException {
        requireCard(card);
        requireChange(change);
        int column = board.whereIs(card);
        if (column != WAITING && column != DOING) {
            throw new IllegalStateException("the card is beyond the column 1");
        }
        board.setName(card, change, doesName);
        return Integer.bitCount(board.namesOf(card));
    }

    public int move(int card) throws IndexOutOfBoundsException, IllegalStateException {
        requireCard(card);
        if (!isMovable(card)) {
            throw new IllegalStateException("the card can't move on");
        }
        int column = board.whereIs(card);
        shift(card, column + 1);
        if (column == REVIEW) {
            gate.enqueue(board.namesOf(card));
            passOn(card);
        }
        return board.whereIs(card);
    }

    public int moveBack(int card) throws IndexOutOfBoundsException, IllegalStateException {
        requireCard(card);
        int column = board.whereIs(card);
        if (column == WAITING || column == DONE || board.isAtLimit(column - 1)) {
            throw new IllegalStateException("the card can't move back");
        }
        shift(card, column - 1);
        return board.whereIs(card);
    }

    public int setLimit(int column, int limit)
            throws IndexOutOfBoundsException, IllegalArgumentException {
        if (!hasLimit(column)) {
            throw new IndexOutOfBoundsException("no such column with a limit");
        }
        requireRange(limit, 1, HIGHEST_LIMIT);
        int before = board.replaceLimit(column, limit);
        for (int size = board.sizeOf(column); size > limit; size--) {
            pushBackFrom(column);
        }
        return before;
    }

    // ---- changes

    public int change(int weight) throws IllegalArgumentException, IllegalStateException {
        requireRange(weight, 1, HIGHEST_WEIGHT);
        if (gate.count >= MOST_CHANGES) {
            throw new IllegalStateException("there are 30 changes");
        }
        return gate.add(weight);
    }

    public int need(int change, int other)
            throws IndexOutOfBoundsException, IllegalArgumentException, IllegalStateException {
        requireChange(change);
        requireChange(other);
        if (other >= change) {
            throw new IllegalArgumentException("a change needs lower ones only");
        }
        if (gate.stateOf(change) != OPEN || contains(gate.needsOf(change), other)) {
            throw new IllegalStateException("the change is not open, or needs the other already");
        }
        gate.addNeed(change, other);
        return Integer.bitCount(gate.needsOf(change));
    }

    public boolean setBroken(int change, boolean isBroken)
            throws IndexOutOfBoundsException, IllegalStateException {
        requireChange(change);
        if (gate.stateOf(change) == IN) {
            throw new IllegalStateException("the change is in");
        }
        return gate.replaceBroken(change, isBroken);
    }

    public boolean setClash(int change, int other, boolean doClash)
            throws IndexOutOfBoundsException, IllegalArgumentException, IllegalStateException {
        requireChange(change);
        requireChange(other);
        if (change == other) {
            throw new IllegalArgumentException("a change does not clash with itself");
        }
        if (gate.stateOf(change) == IN && gate.stateOf(other) == IN) {
            throw new IllegalStateException("both changes are in");
        }
        return gate.replaceClash(change, other, doClash);
    }

    public int mend(int change) throws IndexOutOfBoundsException, IllegalStateException {
        requireChange(change);
        if (gate.stateOf(change) != REFUSED) {
            throw new IllegalStateException("the change is not refused");
        }
        gate.setState(change, OPEN);
        gate.replaceBroken(change, false);
        return board.countNaming(change);
    }

    public int takeOut(int change) throws IndexOutOfBoundsException, IllegalStateException {
        requireChange(change);
        if (gate.stateOf(change) != IN || gate.isNeededByOneIn(change)) {
            throw new IllegalStateException("the change is not in, or one that is in needs it");
        }
        gate.setState(change, OPEN);
        return dropCards(bit(change), true);
    }

    // ---- the queue

    public int merge(int length) throws IllegalArgumentException, IllegalStateException {
        requireRow(length);
        gate.foreseeRow(length);
        gate.settle(length);
        hoursSoFar += gate.trialHours;
        dropCards(gate.allOf(REFUSED), false);
        for (int card = 0; card < board.count; card++) {
            passOn(card);
        }
        return gate.trialTries;
    }

    public int queued() {
        return gate.queueLength;
    }

    public int queuedAt(int place) throws IndexOutOfBoundsException {
        if (place < 0 || place >= gate.queueLength) {
            throw new IndexOutOfBoundsException("no such place in the queue");
        }
        return gate.changeAt(place);
    }

    public int wouldPass(int length) throws IllegalArgumentException, IllegalStateException {
        requireRow(length);
        gate.foreseeRow(length);
        return gate.passedPlaces(length);
    }

    public int wouldPassOneByOne(int length)
            throws IllegalArgumentException, IllegalStateException {
        requireRow(length);
        gate.foreseeOneByOne(length);
        return gate.passedPlaces(length);
    }

    public int wouldTake(int length, boolean isOneByOne)
            throws IllegalArgumentException, IllegalStateException {
        requireRow(length);
        if (isOneByOne) {
            gate.foreseeOneByOne(length);
        } else {
            gate.foreseeRow(length);
        }
        return gate.trialHours;
    }

    public int bestLength() {
        int best = NONE;
        int bestPassed = 0;
        int bestHours = 1;
        for (int length = 1; length <= LONGEST_ROW && length <= gate.queueLength; length++) {
            gate.foreseeRow(length);
            int passed = Integer.bitCount(gate.passedPlaces(length));
            // Cross-multiplied, so that equal rates compare as equal.
            if (best == NONE || passed * bestHours > bestPassed * gate.trialHours) {
                best = length;
                bestPassed = passed;
                bestHours = gate.trialHours;
            }
        }
        return best;
    }

    public int hours() {
        return hoursSoFar;
    }

    // ---- as it stands

    public int cards() {
        return board.count;
    }

    public int changes() {
        return gate.count;
    }

    public int columnOf(int card) throws IndexOutOfBoundsException {
        requireCard(card);
        return board.whereIs(card);
    }

    public int cardsIn(int column) throws IndexOutOfBoundsException {
        requireColumn(column);
        return board.sizeOf(column);
    }

    public int cardAt(int column, int place) throws IndexOutOfBoundsException {
        requireColumn(column);
        if (place < 0 || place >= board.sizeOf(column)) {
            throw new IndexOutOfBoundsException("no such place in the column");
        }
        return board.cardInOrder(column, place);
    }

    public boolean canMove(int card) throws IndexOutOfBoundsException {
        requireCard(card);
        return isMovable(card);
    }

    public int lacks(int card) throws IndexOutOfBoundsException {
        requireCard(card);
        return Integer.bitCount(board.namesOf(card) & ~gate.allOf(IN));
    }

    public int falls(int card) throws IndexOutOfBoundsException {
        requireCard(card);
        return board.fallsOf(card);
    }

    public int pushes(int card) throws IndexOutOfBoundsException {
        requireCard(card);
        return board.pushesOf(card);
    }

    public int state(int change) throws IndexOutOfBoundsException {
        requireChange(change);
        return gate.stateOf(change);
    }

    public int namedBy(int change) throws IndexOutOfBoundsException {
        requireChange(change);
        return board.countNaming(change);
    }

    // ---- what the arguments must be

    private void requireCard(int card) throws IndexOutOfBoundsException {
        if (!board.has(card)) {
            throw new IndexOutOfBoundsException("no such card");
        }
    }

    private void requireChange(int change) throws IndexOutOfBoundsException {
        if (!gate.has(change)) {
            throw new IndexOutOfBoundsException("no such change");
        }
    }

    private static void requireColumn(int column) throws IndexOutOfBoundsException {
        if (column < WAITING || column > DONE) {
            throw new IndexOutOfBoundsException("no such column");
        }
    }

    private static void requireRange(int value, int lowest, int highest)
            throws IllegalArgumentException {
        if (value < lowest || value > highest) {
            throw new IllegalArgumentException("out of range");
        }
    }

    private void requireRow(int length) throws IllegalArgumentException, IllegalStateException {
        requireRange(length, 1, LONGEST_ROW);
        if (length > gate.queueLength) {
            throw new IllegalStateException("so many changes are not queued");
        }
    }

    // ---- how cards go from column to column

    private boolean isMovable(int card) {
        int column = board.whereIs(card);
        if (column < WAITING || column > REVIEW || board.isAtLimit(column + 1)) {
            return false;
        }
        if (column == DOING) {
            return board.namesOf(card) != 0;
        }
        return column == WAITING || gate.areReady(board.namesOf(card));
    }

    /** Every way from one column to another goes through here. */
    private void shift(int card, int column) {
        boolean leavesTheMerging = board.whereIs(card) == MERGING && column != DONE;
        board.put(card, column);
        if (leavesTheMerging) {
            gate.unqueue(board.namesOf(card) & ~board.namedIn(MERGING));
        }
    }

    /** Pushes one card back there, and then one in each column ahead that comes above its limit. */
    private void pushBackFrom(int column) {
        for (int at = column; at > WAITING && board.isAboveLimit(at); at--) {
            int card = board.cardInOrder(at, board.sizeOf(at) - 1);
            board.countPush(card);
            shift(card, at - 1);
        }
    }

    /** Lets the cards fall that name one of these changes; returns how many. */
    private int dropCards(int changes, boolean alsoDone) {
        int fallen = 0;
        for (int card = 0; card < board.count; card++) {
            int column = board.whereIs(card);
            boolean canFall = column == MERGING || (alsoDone && column == DONE);
            if (canFall && (board.namesOf(card) & changes) != 0) {
                board.countFall(card);
                shift(card, DOING);
                pushBackFrom(DOING);
                fallen++;
            }
        }
        return fallen;
    }

    private void passOn(int card) {
        boolean isAllIn = (board.namesOf(card) & ~gate.allOf(IN)) == 0;
        if (board.whereIs(card) == MERGING && isAllIn) {
            shift(card, DONE);
        }
    }

    private static boolean hasLimit(int column) {
        return column >= DOING && column <= MERGING;
    }

    // ---- sets of changes

    private static int bit(int change) {
        return 1 << change;
    }

    private static boolean contains(int set, int change) {
        return (set & bit(change)) != 0;
    }

    private static int with(int set, int change, boolean isThere) {
        return isThere ? set | bit(change) : set & ~bit(change);
    }

    /** The cards, and the columns where they are. */
    private static final class Board {
        private final int[] ranks = new int[MOST_CARDS];
        private final int[] columns = new int[MOST_CARDS];
        private final int[] arrivals = new int[MOST_CARDS];
        private final int[] names = new int[MOST_CARDS];
        private final int[] fallCounts = new int[MOST_CARDS];
        private final int[] pushCounts = new int[MOST_CARDS];
        private final int[] limits = new int[COLUMNS];
        private int count = 0;
        private int arrivalsSoFar = 0;

        Board() {
            for (int column = DOING; column <= MERGING && column < limits.length; column++) {
                limits[column] = FIRST_LIMIT;
            }
        }

        boolean has(int card) {
            return card >= 0 && card < count;
        }

        /** Adds a card; the caller has looked that there is room. */
        int add(int rank) {
            if (count >= MOST_CARDS) {
                return NONE;
            }
            int card = count;
            ranks[card] = rank;
            count++;
            put(card, WAITING);
            return card;
        }

        void put(int card, int column) {
            if (has(card)) {
                columns[card] = column;
                arrivals[card] = arrivalsSoFar;
                arrivalsSoFar++;
            }
        }

        int whereIs(int card) {
            return has(card) ? columns[card] : NONE;
        }

        int sizeOf(int column) {
            int size = 0;
            for (int card = 0; card < count; card++) {
                if (columns[card] == column) {
                    size++;
                }
            }
            return size;
        }

        /** The card at that place of the column, the highest rank first and then the earliest. */
        int cardInOrder(int column, int place) {
            for (int card = 0; card < count; card++) {
                if (columns[card] == column && countAheadOf(card) == place) {
                    return card;
                }
            }
            return NONE;
        }

        private int countAheadOf(int card) {
            int ahead = 0;
            for (int other = 0; has(card) && other < count; other++) {
                boolean isHigher = ranks[other] > ranks[card];
                boolean isEarlier = ranks[other] == ranks[card] && arrivals[other] < arrivals[card];
                if (columns[other] == columns[card] && (isHigher || isEarlier)) {
                    ahead++;
                }
            }
            return ahead;
        }

        boolean isAtLimit(int column) {
            return hasLimit(column) && sizeOf(column) >= limits[column];
        }

        boolean isAboveLimit(int column) {
            return hasLimit(column) && sizeOf(column) > limits[column];
        }

        int replaceLimit(int column, int limit) {
            if (!hasLimit(column)) {
                return NONE;
            }
            int before = limits[column];
            limits[column] = limit;
            return before;
        }

        void setName(int card, int change, boolean doesName) {
            if (has(card)) {
                names[card] = with(names[card], change, doesName);
            }
        }

        int namesOf(int card) {
            return has(card) ? names[card] : 0;
        }

        /** All that the cards of a column name. */
        int namedIn(int column) {
            int named = 0;
            for (int card = 0; card < count; card++) {
                if (columns[card] == column) {
                    named |= names[card];
                }
            }
            return named;
        }

        int countNaming(int change) {
            int naming = 0;
            for (int card = 0; card < count; card++) {
                if (contains(names[card], change)) {
                    naming++;
                }
            }
            return naming;
        }

        void countFall(int card) {
            if (has(card)) {
                fallCounts[card]++;
            }
        }

        int fallsOf(int card) {
            return has(card) ? fallCounts[card] : 0;
        }

        void countPush(int card) {
            if (has(card)) {
                pushCounts[card]++;
            }
        }

        int pushesOf(int card) {
            return has(card) ? pushCounts[card] : 0;
        }
    }

    /** The changes, their queue, and what merging the first of the queue would do. */
    private static final class Gate {
        private final int[] weights = new int[MOST_CHANGES];
        private final int[] needs = new int[MOST_CHANGES];
        private final int[] clashes = new int[MOST_CHANGES];
        private final int[] states = new int[MOST_CHANGES];
        private final int[] queue = new int[MOST_CHANGES];
        private int broken = 0;
        private int count = 0;
        private int queueLength = 0;
        private int trialIn = 0;
        private int trialTries = 0;
        private int trialHours = 0;

        boolean has(int change) {
            return change >= 0 && change < count;
        }

        /** Adds a change; the caller has looked that there is room. */
        int add(int weight) {
            if (count >= MOST_CHANGES) {
                return NONE;
            }
            int change = count;
            weights[change] = weight;
            states[change] = OPEN;
            count++;
            return change;
        }

        int weightOf(int change) {
            return has(change) ? weights[change] : 0;
        }

        int stateOf(int change) {
            return has(change) ? states[change] : NONE;
        }

        void setState(int change, int state) {
            if (has(change)) {
                states[change] = state;
            }
        }

        /** All changes that are in that state. */
        int allOf(int state) {
            int all = 0;
            for (int change = 0; change < count; change++) {
                if (states[change] == state) {
                    all |= bit(change);
                }
            }
            return all;
        }

        int needsOf(int change) {
            return has(change) ? needs[change] : 0;
        }

        void addNeed(int change, int other) {
            if (has(change)) {
                needs[change] = with(needs[change], other, true);
            }
        }

        boolean isNeededByOneIn(int change) {
            for (int other = 0; other < count; other++) {
                if (states[other] == IN && contains(needs[other], change)) {
                    return true;
                }
            }
            return false;
        }

        boolean replaceBroken(int change, boolean isBroken) {
            boolean before = contains(broken, change);
            broken = with(broken, change, isBroken);
            return before;
        }

        boolean replaceClash(int change, int other, boolean doClash) {
            if (!has(change) || !has(other)) {
                return false;
            }
            boolean before = contains(clashes[change], other);
            clashes[change] = with(clashes[change], other, doClash);
            clashes[other] = with(clashes[other], change, doClash);
            return before;
        }

        /** Whether a card that names these may go to the merging. */
        boolean areReady(int named) {
            int refused = allOf(REFUSED);
            int missing = (allOf(OPEN) | refused) & ~named;
            for (int change = 0; change < count; change++) {
                if (contains(named, change) && (needs[change] & missing) != 0) {
                    return false;
                }
            }
            return (named & refused) == 0;
        }

        int changeAt(int place) {
            return place >= 0 && place < queueLength && place < queue.length ? queue[place] : NONE;
        }

        void enqueue(int changes) {
            for (int change = 0; change < count; change++) {
                boolean comes = contains(changes, change) && states[change] == OPEN;
                if (comes && queueLength < queue.length) {
                    states[change] = QUEUED;
                    queue[queueLength] = change;
                    queueLength++;
                }
            }
        }

        /** Makes those of the changes OPEN that are QUEUED. */
        void unqueue(int changes) {
            int kept = 0;
            for (int place = 0; place < queueLength && place < queue.length; place++) {
                int change = queue[place];
                if (contains(changes, change)) {
                    setState(change, OPEN);
                } else {
                    queue[kept] = change;
                    kept++;
                }
            }
            queueLength = kept;
        }

        /** Makes true of the first changes what was foreseen for them, and ends their queueing. */
        void settle(int length) {
            int kept = 0;
            for (int place = 0; place < queueLength && place < queue.length; place++) {
                int change = queue[place];
                if (place < length) {
                    setState(change, contains(trialIn, change) ? IN : REFUSED);
                } else {
                    queue[kept] = change;
                    kept++;
                }
            }
            queueLength = kept;
        }

        void foreseeRow(int length) {
            startTrial();
            tryAndHalve(0, length);
        }

        void foreseeOneByOne(int length) {
            startTrial();
            for (int place = 0; place < length && place < queueLength; place++) {
                tryAndHalve(place, 1);
            }
        }

        /** Which places of the queue, 2 to the power of each, the last trial let in. */
        int passedPlaces(int length) {
            int places = 0;
            for (int place = 0; place < length && place < queueLength; place++) {
                if (contains(trialIn, changeAt(place))) {
                    places |= 1 << place;
                }
            }
            return places;
        }

        private void startTrial() {
            trialIn = allOf(IN);
            trialTries = 0;
            trialHours = 0;
        }

        // A row has at most 8 changes and each level halves it, so four levels are the most.
        private void tryAndHalve(int first, int length) {
            if (length < 1 || length > LONGEST_ROW) {
                return;
            }
            trialTries++;
            trialHours += HOURS_OF_A_TRY + weightOfRow(first, length);
            if (passes(first, length)) {
                trialIn |= setOfRow(first, length);
            } else if (length > 1) {
                tryHalves(first, length);
            }
        }

        private void tryHalves(int first, int length) {
            int greaterHalf = (length + 1) / 2;
            tryAndHalve(first, greaterHalf);
            tryAndHalve(first + greaterHalf, length - greaterHalf);
        }

        private boolean passes(int first, int length) {
            for (int ahead = 0; ahead < length; ahead++) {
                if (!holdsBehind(changeAt(first + ahead), setOfRow(first, ahead))) {
                    return false;
                }
            }
            return true;
        }

        private boolean holdsBehind(int change, int others) {
            if (!has(change) || contains(broken, change)) {
                return false;
            }
            int there = trialIn | others;
            return (needs[change] & ~there) == 0 && (clashes[change] & there) == 0;
        }

        private int setOfRow(int first, int length) {
            int set = 0;
            for (int k = 0; k < length; k++) {
                set |= bit(changeAt(first + k));
            }
            return set;
        }

        private int weightOfRow(int first, int length) {
            int weight = 0;
            for (int k = 0; k < length; k++) {
                weight += weightOf(changeAt(first + k));
            }
            return weight;
        }
    }
}
