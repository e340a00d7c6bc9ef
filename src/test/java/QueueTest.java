/** Promises 13 to 20: merge, the queue, what would be, bestLength, hours. */
public final class QueueTest {
    private static final Check CHECK = new Check("QueueTest");

    public static void main(String[] args) {
        mergePasses();
        mergeHalves();
        mergeTakesTheFirst();
        mergeMovesCards();
        mergeLetsFallInOrder();
        mergeRefuses();
        holding();
        queueIsTold();
        wouldPassTells();
        rowAndOneByOneDiffer();
        wouldTakeTells();
        wouldRefuse();
        bestLengthTells();
        hoursAddUp();
        CHECK.end();
    }

    private static void mergePasses() {
        Cardgate x = Setup.queuing(1, 2, 3, 4, 5, 6, 7, 8);
        CHECK.equal("one try", 1, x.merge(8));
        CHECK.equal("hours", 41, x.hours());
        for (int change = 0; change < 8; change++) {
            CHECK.equal("in", Cardgate.IN, x.state(change));
        }
        CHECK.equal("done", 4, x.columnOf(0));
        CHECK.equal("the queue", "[]", Snapshot.queue(x));
    }

    private static void mergeHalves() {
        Cardgate x = Setup.queuing(1, 2, 3, 4, 5);
        x.setBroken(3, true);
        // 5 changes, then 3, then 2, then both alone.
        CHECK.equal("tries", 5, x.merge(5));
        CHECK.equal("hours", 20 + 11 + 14 + 9 + 10, x.hours());
        CHECK.equal("refused", Cardgate.REFUSED, x.state(3));
        CHECK.equal("in", Cardgate.IN, x.state(4));

        Cardgate y = Setup.queuing(9, 1, 1);
        y.setBroken(0, true);
        // 3 changes, the greater half of 2, both alone, the last one.
        CHECK.equal("tries", 5, y.merge(3));
        CHECK.equal("hours", 16 + 15 + 14 + 6 + 6, y.hours());

        Cardgate z = Setup.queuing(1, 1, 1, 1, 1, 1, 1, 1);
        for (int change = 0; change < 8; change++) {
            z.setBroken(change, true);
        }
        CHECK.equal("all tries", 15, z.merge(8));
        CHECK.equal("hours", 15 * 5 + 4 * 8, z.hours());
        CHECK.equal("fallen once", 1, z.falls(0));
    }

    private static void mergeTakesTheFirst() {
        Cardgate x = Setup.queuing(1, 1, 1);
        x.setBroken(1, true);
        CHECK.equal("the first alone", 1, x.merge(1));
        CHECK.equal("the others wait", "[1 2]", Snapshot.queue(x));
        CHECK.equal("its card waits", 3, x.columnOf(0));
        CHECK.equal("one refused", 1, x.merge(1));
        CHECK.equal("the last one is open again", Cardgate.OPEN, x.state(2));
        CHECK.equal("the queue", "[]", Snapshot.queue(x));
        CHECK.equal("the card fell", 1, x.columnOf(0));
    }

    private static void mergeMovesCards() {
        Cardgate x = Setup.withChanges(1, 1, 1, 1);
        int bad = Setup.cardNaming(x, 5, 0, 1);
        int good = Setup.cardNaming(x, 5, 1, 2);
        int later = Setup.cardNaming(x, 5, 2, 3);
        for (int card : new int[] {later, good, bad}) {
            Setup.moveTo(x, card, 3);
        }
        CHECK.equal("the queue", "[2 3 1 0]", Snapshot.queue(x));
        x.setBroken(0, true);
        CHECK.equal("tries", 5, x.merge(4));
        CHECK.equal("fell", 1, x.columnOf(bad));
        CHECK.equal("falls", 1, x.falls(bad));
        CHECK.equal("done by rising numbers", "[1 2]", Snapshot.column(x, 4));
        CHECK.equal("falls", 0, x.falls(good));
        CHECK.equal("in", Cardgate.IN, x.state(1));
    }

    private static void mergeLetsFallInOrder() {
        Cardgate x = Setup.withChanges(1, 1);
        for (int k = 0; k < 3; k++) {
            Setup.cardNaming(x, 4, k == 2 ? new int[] {0, 1} : new int[] {0});
        }
        for (int card = 2; card >= 0; card--) {
            Setup.moveTo(x, card, 3);
        }
        for (int k = 0; k < 2; k++) {
            x.move(x.card(4));
        }
        x.setBroken(0, true);
        x.merge(1);
        CHECK.equal("the first to fall stays", "[3 4 0]", Snapshot.column(x, 1));
        CHECK.equal("the next ones are pushed", "[1 2]", Snapshot.column(x, 0));
        CHECK.equal("pushed", 1, x.pushes(1));
        CHECK.equal("open again", Cardgate.OPEN, x.state(1));
        CHECK.equal("the queue", "[]", Snapshot.queue(x));
    }

    private static void mergeRefuses() {
        Cardgate x = Setup.queuing(1, 1, 1, 1, 1, 1, 1, 1, 1);
        CHECK.illegalArgument("merge(0)", x, () -> x.merge(0));
        CHECK.illegalArgument("merge(9)", x, () -> x.merge(9));
        CHECK.illegalArgument("merge(-1)", x, () -> x.merge(-1));
        x.merge(8);
        CHECK.illegalState("merge(2)", x, () -> x.merge(2));
        CHECK.illegalArgument("merge(9) of 1", x, () -> x.merge(9));
        x.merge(1);
        CHECK.illegalState("merge(1) of none", x, () -> x.merge(1));
        Cardgate y = new Cardgate();
        CHECK.illegalState("merge(1), new", y, () -> y.merge(1));
        CHECK.illegalArgument("merge(0), new", y, () -> y.merge(0));
    }

    /** What a change needs must be in or ahead of it; what it clashes with must be neither. */
    private static void holding() {
        Cardgate x = Setup.withChanges(1, 1, 1);
        x.need(2, 0);
        x.need(2, 1);
        Setup.moveTo(x, Setup.cardNaming(x, 1, 0, 1, 2), 3);
        CHECK.equal("needs are ahead", 7, x.wouldPass(3));
        CHECK.equal("one try", 9 - 1, x.wouldTake(3, false));
        x.setBroken(0, true);
        CHECK.equal("a need is refused", 2, x.wouldPass(3));
        x.setBroken(0, false);
        x.merge(1);
        CHECK.equal("a need is in, one ahead", 3, x.wouldPass(2));

        // The needed one is queued behind the one that needs it.
        Cardgate y = Setup.withChanges(1, 1, 1);
        y.need(2, 0);
        int early = Setup.cardNaming(y, 1, 0);
        int needing = Setup.cardNaming(y, 1, 2);
        Setup.moveTo(y, early, 3);
        Setup.moveTo(y, needing, 3);
        y.moveBack(early);
        y.move(early);
        CHECK.equal("the queue", "[2 0]", Snapshot.queue(y));
        CHECK.equal("a need is behind", 2, y.wouldPass(2));
        CHECK.equal("three tries", 3, y.merge(2));
        CHECK.equal("refused", Cardgate.REFUSED, y.state(2));
        CHECK.equal("in", Cardgate.IN, y.state(0));

        Cardgate z = Setup.queuing(1, 1, 1, 1);
        z.setClash(3, 0, true);
        CHECK.equal("clashes with one ahead", 7, z.wouldPass(4));
        z.merge(1);
        CHECK.equal("clashes with one that is in", 3, z.wouldPass(3));
        z.setClash(3, 0, false);
        CHECK.equal("does not clash", 7, z.wouldPass(3));
    }

    private static void queueIsTold() {
        Cardgate x = new Cardgate();
        CHECK.equal("none", 0, x.queued());
        CHECK.outOfBounds("queuedAt(0) of none", x, () -> x.queuedAt(0));
        Cardgate y = Setup.queuing(1, 1, 1);
        CHECK.equal("three", 3, y.queued());
        CHECK.equal("the first", 0, y.queuedAt(0));
        CHECK.equal("the last", 2, y.queuedAt(2));
        CHECK.outOfBounds("queuedAt(3)", y, () -> y.queuedAt(3));
        CHECK.outOfBounds("queuedAt(-1)", y, () -> y.queuedAt(-1));
        CHECK.outOfBounds("queuedAt(MAX)", y, () -> y.queuedAt(Integer.MAX_VALUE));
        y.merge(1);
        CHECK.equal("two", 2, y.queued());
        CHECK.equal("the first now", 1, y.queuedAt(0));
        CHECK.outOfBounds("queuedAt(2)", y, () -> y.queuedAt(2));
        int[] weights = new int[30];
        java.util.Arrays.fill(weights, 1);
        Cardgate z = Setup.queuing(weights);
        CHECK.equal("all", 30, z.queued());
        CHECK.equal("the last of all", 29, z.queuedAt(29));
    }

    private static void wouldPassTells() {
        Cardgate x = Setup.queuing(1, 1, 1, 1, 1, 1, 1, 1, 1);
        CHECK.equal("all 8", 255, x.wouldPass(8));
        CHECK.equal("the first", 1, x.wouldPass(1));
        x.setBroken(0, true);
        CHECK.equal("places, not numbers", 254, x.wouldPass(8));
        CHECK.equal("one by one", 254, x.wouldPassOneByOne(8));
        x.setBroken(0, false);
        x.merge(1);
        x.setBroken(8, true);
        CHECK.equal("places, not numbers", 127, x.wouldPass(8));
        CHECK.equal("one by one", 127, x.wouldPassOneByOne(8));
        CHECK.equal("nothing is changed", 8, x.queued());
        CHECK.equal("nothing is changed", Cardgate.QUEUED, x.state(1));
        CHECK.equal("nothing is changed", 6, x.hours());
    }

    /** One by one and as a row the same may pass, but it takes other hours. */
    private static void rowAndOneByOneDiffer() {
        Cardgate fresh = Setup.queuing(1, 1);
        CHECK.equal("one by one as the first call", 3, fresh.wouldPassOneByOne(2));
        fresh.setBroken(0, true);
        CHECK.equal("one by one again, told anew", 2, fresh.wouldPassOneByOne(2));

        Cardgate x = Setup.withChanges(1, 1, 1);
        x.need(1, 0);
        Setup.moveTo(x, Setup.cardNaming(x, 1, 0, 1, 2), 3);
        x.setClash(1, 2, true);
        CHECK.equal("row", 3, x.wouldPass(3));
        CHECK.equal("one by one", 3, x.wouldPassOneByOne(3));
        CHECK.equal("one by one builds on those ahead", 18, x.wouldTake(3, true));
        // 3 changes, the first two, the last one.
        CHECK.equal("row", 8 + 7 + 6, x.wouldTake(3, false));
        x.setBroken(0, true);
        CHECK.equal("without the need the clash is none", 4, x.wouldPass(3));
        CHECK.equal("one by one", 4, x.wouldPassOneByOne(3));
        CHECK.equal("a part of the queue", 0, x.wouldPassOneByOne(2));
    }

    private static void wouldTakeTells() {
        Cardgate x = Setup.queuing(9, 8, 7);
        CHECK.equal("a row", 29, x.wouldTake(3, false));
        CHECK.equal("one by one", 39, x.wouldTake(3, true));
        CHECK.equal("a part", 22, x.wouldTake(2, false));
        CHECK.equal("a part", 27, x.wouldTake(2, true));
        x.setBroken(2, true);
        CHECK.equal("a row in halves", 29 + 22 + 12, x.wouldTake(3, false));
        CHECK.equal("one by one is the same", 39, x.wouldTake(3, true));
        CHECK.equal("nothing is taken", 0, x.hours());
    }

    private static void wouldRefuse() {
        Cardgate x = Setup.queuing(1, 1);
        for (int length : new int[] {0, 9, -1, Integer.MIN_VALUE, Integer.MAX_VALUE}) {
            CHECK.illegalArgument("wouldPass " + length, x, () -> x.wouldPass(length));
            CHECK.illegalArgument("oneByOne " + length, x, () -> x.wouldPassOneByOne(length));
            CHECK.illegalArgument("wouldTake " + length, x, () -> x.wouldTake(length, true));
            CHECK.illegalArgument("wouldTake " + length, x, () -> x.wouldTake(length, false));
        }
        for (int length : new int[] {3, 8}) {
            CHECK.illegalState("wouldPass " + length, x, () -> x.wouldPass(length));
            CHECK.illegalState("oneByOne " + length, x, () -> x.wouldPassOneByOne(length));
            CHECK.illegalState("wouldTake " + length, x, () -> x.wouldTake(length, true));
            CHECK.illegalState("wouldTake " + length, x, () -> x.wouldTake(length, false));
        }
    }

    private static void bestLengthTells() {
        CHECK.equal("none", Cardgate.NONE, new Cardgate().bestLength());
        CHECK.equal("one", 1, Setup.queuing(5).bestLength());
        CHECK.equal("at most 8", 8, Setup.queuing(1, 1, 1, 1, 1, 1, 1, 1, 1, 1).bestLength());
        Cardgate none = Setup.queuing(1, 1, 1);
        for (int change = 0; change < 3; change++) {
            none.setBroken(change, true);
        }
        CHECK.equal("none would pass, the lowest", 1, none.bestLength());
        Cardgate late = Setup.queuing(1, 1, 1);
        late.setBroken(0, true);
        // 0 in 6 hours; 1 in 7 + 6 + 6; 2 in 8 + 7 + 6 + 6 + 6.
        CHECK.equal("later ones", 3, late.bestLength());
        // 1 in 6 hours and 2 in 12 hours.
        CHECK.equal("of several the lowest", 1, Setup.queuing(1, 6).bestLength());
        CHECK.equal("a bit lighter", 2, Setup.queuing(1, 5).bestLength());
        CHECK.equal("a bit heavier", 1, Setup.queuing(1, 7).bestLength());
        Cardgate bad = Setup.queuing(1, 1, 1, 1);
        bad.setBroken(2, true);
        // 2 in 7 hours is the best; 3 would take 8 + 7 + 6.
        CHECK.equal("short of the bad one", 2, bad.bestLength());
    }

    private static void hoursAddUp() {
        Cardgate x = Setup.queuing(1, 2, 3);
        CHECK.equal("none", 0, x.hours());
        x.wouldTake(3, true);
        x.bestLength();
        CHECK.equal("what would be takes none", 0, x.hours());
        x.merge(1);
        CHECK.equal("one", 6, x.hours());
        x.setBroken(2, true);
        x.merge(2);
        CHECK.equal("more", 6 + 10 + 7 + 8, x.hours());
        x.mend(2);
        x.takeOut(0);
        CHECK.equal("no try, no hours", 31, x.hours());
    }
}
