/** Promises 13 to 20, sentence by sentence: merge, the queue, what would be, bestLength, hours. */
public final class QueueTest {
    private static final int[] OUT_OF_RANGE = {
        0, 9, -1, 10, 33, 256, Integer.MIN_VALUE, Integer.MAX_VALUE,
    };

    private static final Check CHECK = new Check("QueueTest");

    public static void main(String[] args) {
        mergeTakesTheFirst();
        mergeLength();
        mergeReturns();
        mergeOutOfRange();
        mergeOfTooFew();
        queuedReturns();
        queuedAtReturns();
        queuedAtPlace();
        queuedAtNoPlace();
        wouldPassTells();
        wouldPassLength();
        wouldPassReturns();
        wouldPassOutOfRange();
        wouldPassOfTooFew();
        oneByOneReturnsTheSame();
        oneByOneLength();
        oneByOneReturns();
        oneByOneOutOfRange();
        oneByOneOfTooFew();
        wouldTakeReturns();
        wouldTakeLength();
        wouldTakeFlag();
        wouldTakeOutOfRange();
        wouldTakeOfTooFew();
        bestLengthReturns();
        bestLengthAtMost();
        bestLengthLowest();
        bestLengthOfNone();
        hoursReturns();
        CHECK.end();
    }

    // ---- promise 13: merge

    private static void mergeTakesTheFirst() {
        CHECK.promise(13, "Merges the first changes of the queue, as one row.");
        Cardgate x = Setup.withChanges(1, 2, 3, 4);
        Setup.cardIn(x, 3, 5, 3);
        Setup.cardIn(x, 3, 5, 0, 1, 2);
        CHECK.equal("the queue", "[3 0 1 2]", Snapshot.queue(x));
        x.merge(2);
        CHECK.equal("the first two", "[1 2]", Snapshot.queue(x));
        CHECK.equal("as one row", 5 + 4 + 1, x.hours());
        CHECK.equal("in", Cardgate.IN, x.state(3));
        CHECK.equal("in", Cardgate.IN, x.state(0));
        CHECK.equal("its card waits", 3, x.columnOf(1));
        x.setBroken(1, true);
        x.merge(1);
        CHECK.equal("the next one alone", 10 + 7, x.hours());
        CHECK.equal("the card fell, and the last one is open again", Cardgate.OPEN, x.state(2));
        CHECK.equal("the queue", "[]", Snapshot.queue(x));
    }

    private static void mergeLength() {
        CHECK.promise(13, "length: 1 to 8");
        for (int length = 1; length <= 8; length++) {
            Cardgate more = Setup.queuing(Setup.light(9));
            more.merge(length);
            CHECK.equal("so many of more", 9 - length, more.queued());
            Cardgate all = Setup.queuing(Setup.light(length));
            all.merge(length);
            CHECK.equal("all", 0, all.queued());
            CHECK.equal("the card is done", 4, all.columnOf(0));
        }
    }

    private static void mergeReturns() {
        CHECK.promise(13, "Returns how many tries were made.");
        int[] lastIsBroken = {0, 1, 3, 3, 5, 5, 5, 5, 7};
        for (int length = 1; length <= 8; length++) {
            CHECK.equal("it passes", 1, Setup.queuing(Setup.light(8)).merge(length));
            Cardgate last = Setup.queuing(Setup.light(8));
            last.setBroken(length - 1, true);
            CHECK.equal("its last one is broken", lastIsBroken[length], last.merge(length));
            Cardgate none = Setup.queuing(Setup.light(8));
            for (int change = 0; change < 8; change++) {
                none.setBroken(change, true);
            }
            CHECK.equal("all are broken", 2 * length - 1, none.merge(length));
        }
        Cardgate x = Setup.queuing(1, 1, 1);
        x.setBroken(1, true);
        CHECK.equal("of this call alone", 1, x.merge(1));
        CHECK.equal("of this call alone", 3, x.merge(2));
    }

    private static void mergeOutOfRange() {
        CHECK.promise(13, "Throws IllegalArgumentException if length is out of range");
        Cardgate x = Setup.queuing(Setup.light(10));
        for (int length : OUT_OF_RANGE) {
            CHECK.illegalArgument("merge " + length, x, () -> x.merge(length));
        }
        Cardgate none = new Cardgate();
        for (int length : OUT_OF_RANGE) {
            CHECK.illegalArgument("merge " + length, none, () -> none.merge(length));
        }
    }

    private static void mergeOfTooFew() {
        CHECK.promise(13, "Throws IllegalStateException if so many are not queued");
        for (int count = 0; count < 8; count++) {
            Cardgate x = Setup.withChanges(Setup.light(8));
            int card = x.card(5);
            for (int change = 0; change < count; change++) {
                x.name(card, change, true);
            }
            if (count > 0) {
                Setup.moveTo(x, card, 3);
            }
            for (int length = count + 1; length <= 8; length++) {
                int tooMany = length;
                CHECK.illegalState(length + " of " + count, x, () -> x.merge(tooMany));
            }
        }
        Cardgate y = Setup.queuing(Setup.light(8));
        y.merge(7);
        CHECK.illegalState("one is left", y, () -> y.merge(2));
        y.merge(1);
        CHECK.illegalState("none is left", y, () -> y.merge(1));
    }

    // ---- promises 14 and 15: queued, queuedAt

    private static void queuedReturns() {
        CHECK.promise(14, "Returns how many changes are queued.");
        CHECK.equal("none, new", 0, new Cardgate().queued());
        for (int count = 1; count <= 30; count++) {
            CHECK.equal("so many", count, Setup.queuing(Setup.light(count)).queued());
        }
        Cardgate x = Setup.withChanges(1, 1, 1);
        int card = Setup.cardIn(x, 2, 5, 0, 1);
        CHECK.equal("open ones do not count", 0, x.queued());
        x.move(card);
        CHECK.equal("two", 2, x.queued());
        x.merge(1);
        CHECK.equal("one that is in does not count", 1, x.queued());
        x.moveBack(card);
        CHECK.equal("none", 0, x.queued());
    }

    private static void queuedAtReturns() {
        CHECK.promise(15, "Returns a change of the queue.");
        Cardgate x = Setup.withChanges(1, 1, 1, 1);
        Setup.cardIn(x, 3, 5, 2);
        Setup.cardIn(x, 3, 5, 1, 3);
        CHECK.equal("the first", 2, x.queuedAt(0));
        CHECK.equal("the second", 1, x.queuedAt(1));
        CHECK.equal("the last", 3, x.queuedAt(2));
        x.merge(1);
        CHECK.equal("the first now", 1, x.queuedAt(0));
    }

    private static void queuedAtPlace() {
        CHECK.promise(15, "place: 0 for the first one");
        Cardgate x = Setup.queuing(Setup.light(30));
        for (int place = 0; place < 30; place++) {
            CHECK.equal("of 30", place, x.queuedAt(place));
        }
        CHECK.equal("of one", 0, Setup.queuing(1).queuedAt(0));
    }

    private static void queuedAtNoPlace() {
        CHECK.promise(15, "Throws IndexOutOfBoundsException if there is no such place");
        Cardgate none = Setup.withChanges(Setup.light(30));
        for (int place : Setup.beyond(0)) {
            CHECK.outOfBounds("of none " + place, none, () -> none.queuedAt(place));
        }
        for (int count : new int[] {1, 3, 29, 30}) {
            Cardgate x = Setup.queuing(Setup.light(count));
            for (int place : Setup.beyond(count)) {
                CHECK.outOfBounds("of " + count + " " + place, x, () -> x.queuedAt(place));
            }
        }
        Cardgate y = Setup.queuing(1, 1, 1);
        y.merge(1);
        CHECK.outOfBounds("one was merged", y, () -> y.queuedAt(2));
        y.moveBack(0);
        CHECK.outOfBounds("all are open", y, () -> y.queuedAt(0));
    }

    // ---- promise 16: wouldPass

    private static void wouldPassTells() {
        CHECK.promise(16, "Tells which of the first changes of the queue would become IN, if these were "
            + "merged now as one row.");
        Cardgate x = Setup.withChanges(1, 1, 1);
        x.need(1, 0);
        Setup.cardIn(x, 3, 5, 0, 1, 2);
        x.setClash(1, 2, true);
        CHECK.equal("the last one clashes", 3, x.wouldPass(3));
        x.setBroken(0, true);
        CHECK.equal("without the need the clash is none", 4, x.wouldPass(3));
        CHECK.equal("of the first two alone", 0, x.wouldPass(2));
        CHECK.equal("nothing is changed", "[0 1 2]", Snapshot.queue(x));
        CHECK.equal("nothing is changed", Cardgate.QUEUED, x.state(2));
        CHECK.equal("nothing is changed", 3, x.columnOf(0));
        CHECK.equal("nothing is changed", 0, x.hours());
        x.merge(3);
        CHECK.equal("it comes true", Cardgate.REFUSED, x.state(0));
        CHECK.equal("it comes true", Cardgate.REFUSED, x.state(1));
        CHECK.equal("it comes true", Cardgate.IN, x.state(2));
    }

    private static void wouldPassLength() {
        CHECK.promise(16, "length: 1 to 8");
        eachLengthPasses(false);
    }

    private static void wouldPassReturns() {
        CHECK.promise(16, "Returns 2 to the power of k for each place k of the queue whose change would.");
        eachPlacePasses(false);
    }

    private static void wouldPassOutOfRange() {
        CHECK.promise(16, "Throws IllegalArgumentException if length is out of range");
        noOtherLengthPasses(false);
    }

    private static void wouldPassOfTooFew() {
        CHECK.promise(16, "Throws IllegalStateException if so many are not queued");
        noMorePassThanAreQueued(false);
    }

    // ---- promise 17: wouldPassOneByOne

    private static void oneByOneReturnsTheSame() {
        CHECK.promise(17, "Returns the same for these merged one by one.");
        Cardgate fresh = Setup.queuing(1, 1);
        CHECK.equal("as the first call", 3, fresh.wouldPassOneByOne(2));
        fresh.setBroken(0, true);
        CHECK.equal("told anew", 2, fresh.wouldPassOneByOne(2));

        Cardgate x = Setup.withChanges(1, 1, 1);
        x.need(1, 0);
        Setup.cardIn(x, 3, 5, 0, 1, 2);
        x.setClash(1, 2, true);
        CHECK.equal("the last one clashes", 3, x.wouldPassOneByOne(3));
        x.setBroken(0, true);
        CHECK.equal("without the need the clash is none", 4, x.wouldPassOneByOne(3));
        CHECK.equal("of the first two alone", 0, x.wouldPassOneByOne(2));
        CHECK.equal("nothing is changed", "[0 1 2]", Snapshot.queue(x));
        CHECK.equal("nothing is changed", Cardgate.QUEUED, x.state(2));
        CHECK.equal("nothing is changed", 3, x.columnOf(0));
        CHECK.equal("nothing is changed", 0, x.hours());
    }

    private static void oneByOneLength() {
        CHECK.promise(17, "length: 1 to 8");
        eachLengthPasses(true);
    }

    private static void oneByOneReturns() {
        CHECK.promise(17, "Returns 2 to the power of k for each place k of the queue whose change would.");
        eachPlacePasses(true);
    }

    private static void oneByOneOutOfRange() {
        CHECK.promise(17, "Throws IllegalArgumentException if length is out of range");
        noOtherLengthPasses(true);
    }

    private static void oneByOneOfTooFew() {
        CHECK.promise(17, "Throws IllegalStateException if so many are not queued");
        noMorePassThanAreQueued(true);
    }

    // ---- what is asked of both

    private static int passed(Cardgate x, int length, boolean isOneByOne) {
        return isOneByOne ? x.wouldPassOneByOne(length) : x.wouldPass(length);
    }

    private static void eachLengthPasses(boolean isOneByOne) {
        for (int length = 1; length <= 8; length++) {
            int due = (1 << length) - 1;
            CHECK.equal("of more", due, passed(Setup.queuing(Setup.light(30)), length, isOneByOne));
            CHECK.equal("of as many", due,
                passed(Setup.queuing(Setup.light(length)), length, isOneByOne));
        }
    }

    private static void eachPlacePasses(boolean isOneByOne) {
        Cardgate x = Setup.queuing(Setup.light(16));
        CHECK.equal("all", 255, passed(x, 8, isOneByOne));
        for (int change = 0; change < 16; change++) {
            x.setBroken(change, true);
        }
        CHECK.equal("none", 0, passed(x, 8, isOneByOne));
        for (int place = 0; place < 8; place++) {
            x.setBroken(place, false);
            CHECK.equal("that place alone", 1 << place, passed(x, 8, isOneByOne));
            x.setBroken(place, true);
        }
        Cardgate y = Setup.queuing(Setup.light(16));
        y.merge(8);
        y.setBroken(8, true);
        CHECK.equal("places, not numbers", 254, passed(y, 8, isOneByOne));
        Cardgate z = Setup.queuing(Setup.light(8));
        for (int change = 0; change < 7; change++) {
            z.setBroken(change, true);
        }
        CHECK.equal("the last one of all", 128, passed(z, 8, isOneByOne));
    }

    private static void noOtherLengthPasses(boolean isOneByOne) {
        Cardgate x = Setup.queuing(Setup.light(10));
        for (int length : OUT_OF_RANGE) {
            CHECK.illegalArgument("of 10: " + length, x, () -> passed(x, length, isOneByOne));
        }
    }

    private static void noMorePassThanAreQueued(boolean isOneByOne) {
        Cardgate none = new Cardgate();
        CHECK.illegalState("1 of none", none, () -> passed(none, 1, isOneByOne));
        for (int count = 1; count < 8; count++) {
            Cardgate x = Setup.queuing(Setup.light(count));
            int next = count + 1;
            CHECK.equal("as many", (1 << count) - 1, passed(x, count, isOneByOne));
            CHECK.illegalState("one more than " + count, x, () -> passed(x, next, isOneByOne));
            CHECK.illegalState("8 of " + count, x, () -> passed(x, 8, isOneByOne));
        }
    }

    // ---- promise 18: wouldTake

    private static void wouldTakeReturns() {
        CHECK.promise(18, "Returns how many hours the tries would take, if the first changes of the "
            + "queue were merged now.");
        Cardgate x = Setup.queuing(9, 8, 7);
        CHECK.equal("a part", 22, x.wouldTake(2, false));
        CHECK.equal("a part", 27, x.wouldTake(2, true));
        x.setBroken(2, true);
        CHECK.equal("a row in halves", 29 + 22 + 12, x.wouldTake(3, false));
        CHECK.equal("not those before", 29 + 22 + 12, x.wouldTake(3, false));
        CHECK.equal("nothing is taken", 0, x.hours());
        CHECK.equal("nothing is changed", "[0 1 2]", Snapshot.queue(x));
        x.merge(3);
        CHECK.equal("it comes true", 29 + 22 + 12, x.hours());
    }

    private static void wouldTakeLength() {
        CHECK.promise(18, "length: 1 to 8");
        for (int length = 1; length <= 8; length++) {
            Cardgate more = Setup.queuing(Setup.light(30));
            CHECK.equal("a row of more", 5 + length, more.wouldTake(length, false));
            CHECK.equal("one by one of more", 6 * length, more.wouldTake(length, true));
            Cardgate all = Setup.queuing(Setup.light(length));
            CHECK.equal("a row of as many", 5 + length, all.wouldTake(length, false));
            CHECK.equal("one by one of as many", 6 * length, all.wouldTake(length, true));
        }
    }

    private static void wouldTakeFlag() {
        CHECK.promise(18, "isOneByOne: whether one by one; otherwise as one row");
        Cardgate x = Setup.queuing(9, 8, 7);
        CHECK.equal("as one row", 29, x.wouldTake(3, false));
        CHECK.equal("one by one", 39, x.wouldTake(3, true));
        CHECK.equal("a single one is the same", 14, x.wouldTake(1, false));
        CHECK.equal("a single one is the same", 14, x.wouldTake(1, true));
        x.setBroken(0, true);
        CHECK.equal("one by one takes the same, refused or not", 39, x.wouldTake(3, true));
        CHECK.equal("one row takes more", 29 + 22 + 14 + 13 + 12, x.wouldTake(3, false));
    }

    private static void wouldTakeOutOfRange() {
        CHECK.promise(18, "Throws IllegalArgumentException if length is out of range");
        Cardgate x = Setup.queuing(Setup.light(10));
        for (int length : OUT_OF_RANGE) {
            CHECK.illegalArgument("one by one " + length, x, () -> x.wouldTake(length, true));
            CHECK.illegalArgument("as a row " + length, x, () -> x.wouldTake(length, false));
        }
    }

    private static void wouldTakeOfTooFew() {
        CHECK.promise(18, "Throws IllegalStateException if so many are not queued");
        Cardgate none = new Cardgate();
        CHECK.illegalState("1 of none", none, () -> none.wouldTake(1, true));
        CHECK.illegalState("1 of none", none, () -> none.wouldTake(1, false));
        for (int count = 1; count < 8; count++) {
            Cardgate x = Setup.queuing(Setup.light(count));
            int next = count + 1;
            CHECK.equal("as many", 5 + count, x.wouldTake(count, false));
            CHECK.equal("as many", 6 * count, x.wouldTake(count, true));
            CHECK.illegalState("one more than " + count, x, () -> x.wouldTake(next, true));
            CHECK.illegalState("one more than " + count, x, () -> x.wouldTake(next, false));
        }
    }

    // ---- promises 19 and 20: bestLength, hours

    private static void bestLengthReturns() {
        CHECK.promise(19, "Returns for which length, 1 to 8 and at most as many as are queued, merging "
            + "the first changes as one row would let the most changes become IN for each hour that "
            + "the tries take;");
        Cardgate late = Setup.queuing(1, 1, 1);
        late.setBroken(0, true);
        // 0 in 6 hours; 1 in 7 + 6 + 6; 2 in 8 + 7 + 6 + 6 + 6.
        CHECK.equal("later ones", 3, late.bestLength());
        Cardgate bad = Setup.queuing(1, 1, 1, 1);
        bad.setBroken(2, true);
        // 2 in 7 hours; 3 would take 8 + 7 + 6.
        CHECK.equal("short of the bad one", 2, bad.bestLength());
        // 1 in 6 hours; 2 in 11 hours is a bit more for each hour.
        CHECK.equal("a bit lighter", 2, Setup.queuing(1, 5).bestLength());
        CHECK.equal("a bit heavier", 1, Setup.queuing(1, 7).bestLength());
        Cardgate last = Setup.queuing(9, 9, 9, 9, 9, 9, 9, 1);
        for (int change = 0; change < 7; change++) {
            last.setBroken(change, true);
        }
        CHECK.equal("the last one alone passes", 8, last.bestLength());
        CHECK.equal("nothing is taken", 0, last.hours());
        CHECK.equal("nothing is changed", 8, last.queued());
    }

    private static void bestLengthAtMost() {
        CHECK.promise(19, "1 to 8 and at most as many as are queued");
        for (int count = 1; count <= 8; count++) {
            CHECK.equal("all of so many", count, Setup.queuing(Setup.light(count)).bestLength());
        }
        for (int count : new int[] {9, 29, 30}) {
            CHECK.equal("at most 8", 8, Setup.queuing(Setup.light(count)).bestLength());
        }
    }

    private static void bestLengthLowest() {
        CHECK.promise(19, "of several the lowest;");
        // 1 in 6 hours and 2 in 12 hours.
        CHECK.equal("1 and 2", 1, Setup.queuing(1, 6).bestLength());
        // 2 in 15 hours and 4 in 30; 1 in 14 and 3 in 23 are less.
        CHECK.equal("2 and 4", 2, Setup.queuing(9, 1, 8, 7).bestLength());
        Cardgate none = Setup.queuing(Setup.light(8));
        for (int change = 0; change < 8; change++) {
            none.setBroken(change, true);
        }
        CHECK.equal("none would pass, of whatever length", 1, none.bestLength());
    }

    private static void bestLengthOfNone() {
        CHECK.promise(19, "NONE if none are queued.");
        CHECK.equal("new", Cardgate.NONE, new Cardgate().bestLength());
        Cardgate x = Setup.withChanges(1, 1);
        int card = Setup.cardIn(x, 2, 5, 0, 1);
        CHECK.equal("open ones", Cardgate.NONE, x.bestLength());
        x.move(card);
        x.setBroken(1, true);
        CHECK.equal("queued ones", 1, x.bestLength());
        x.merge(2);
        CHECK.equal("one in and one refused", Cardgate.NONE, x.bestLength());
    }

    private static void hoursReturns() {
        CHECK.promise(20, "Returns how many hours all tries have taken so far.");
        Cardgate x = Setup.queuing(1, 2, 3);
        CHECK.equal("none", 0, x.hours());
        x.wouldTake(3, true);
        x.wouldPass(3);
        x.wouldPassOneByOne(3);
        x.bestLength();
        CHECK.equal("what would be takes none", 0, x.hours());
        CHECK.illegalState("a refused call takes none", x, () -> x.merge(4));
        x.merge(1);
        CHECK.equal("one try", 6, x.hours());
        x.setBroken(2, true);
        x.merge(2);
        CHECK.equal("three more, refused or not", 6 + 10 + 7 + 8, x.hours());
        x.mend(2);
        x.takeOut(0);
        CHECK.equal("no try, no hours", 31, x.hours());
        Setup.moveTo(x, 0, 3);
        x.merge(2);
        CHECK.equal("the same changes again", 31 + 9, x.hours());
        Cardgate many = Setup.queuing(9);
        for (int k = 1; k <= 50; k++) {
            many.setBroken(0, true);
            many.merge(1);
            many.mend(0);
            Setup.moveTo(many, 0, 3);
        }
        CHECK.equal("fifty tries", 700, many.hours());
    }
}
