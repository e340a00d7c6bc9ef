/** 'Terms', 'Tries', sentence by sentence: what holds, what passes, and what a merged row does. */
public final class TriesTest {
    private static final Check CHECK = new Check("TriesTest");

    public static void main(String[] args) {
        holding();
        passing();
        hoursOfATry();
        aRowThatPasses();
        aSingleChange();
        halves();
        oneByOne();
        notInTheQueueAnyMore();
        cardsFall();
        cardsAreDone();
        CHECK.end();
    }

    private static void holding() {
        CHECK.terms("A change holds behind some others if it is not broken, all that it needs are IN or "
            + "among these others, and it clashes with none that is IN, and with none of these "
            + "others.");
        brokenOnes();
        needsInOrAhead();
        needsElsewhere();
        clashesInOrAhead();
        clashesElsewhere();
    }

    private static void brokenOnes() {
        Cardgate x = Setup.queuing(1, 1, 1);
        CHECK.equal("none is broken", 7, x.wouldPass(3));
        x.setBroken(1, true);
        CHECK.equal("one is", 5, x.wouldPass(3));
        x.setBroken(1, false);
        CHECK.equal("not any more", 7, x.wouldPass(3));
        CHECK.equal("in one try", 8, x.wouldTake(3, false));
    }

    private static void needsInOrAhead() {
        Cardgate x = Setup.withChanges(1, 1, 1, 1);
        for (int other = 0; other < 3; other++) {
            x.need(3, other);
        }
        Setup.cardIn(x, 3, 5, 0, 1, 2, 3);
        CHECK.equal("all are ahead", 15, x.wouldPass(4));
        CHECK.equal("in one try", 9, x.wouldTake(4, false));
        x.merge(1);
        CHECK.equal("one is in, two are ahead", 7, x.wouldPass(3));
        CHECK.equal("in one try", 8, x.wouldTake(3, false));
        x.setBroken(1, true);
        CHECK.equal("one ahead is broken", 2, x.wouldPass(3));
        x.setBroken(1, false);
        x.setBroken(2, true);
        CHECK.equal("the other ahead is broken", 1, x.wouldPass(3));
        x.setBroken(2, false);
        x.merge(2);
        CHECK.equal("all are in", 1, x.wouldPass(1));
    }

    private static void needsElsewhere() {
        Cardgate x = Setup.withChanges(1, 1, 1);
        x.need(2, 0);
        int early = Setup.cardIn(x, 3, 5, 0);
        Setup.cardIn(x, 3, 5, 2);
        x.moveBack(early);
        CHECK.equal("the queue", "[2]", Snapshot.queue(x));
        CHECK.equal("the needed one is open", 0, x.wouldPass(1));
        x.move(early);
        CHECK.equal("the queue", "[2 0]", Snapshot.queue(x));
        CHECK.equal("it is behind, out of the row", 0, x.wouldPass(1));
        CHECK.equal("it is behind, in the row", 2, x.wouldPass(2));
        CHECK.equal("so the row does not pass", 3, x.merge(2));
        CHECK.equal("refused", Cardgate.REFUSED, x.state(2));
        CHECK.equal("in", Cardgate.IN, x.state(0));

        Cardgate y = Setup.withChanges(1, 1, 1);
        y.need(1, 0);
        Setup.cardIn(y, 3, 5, 0);
        Setup.cardIn(y, 3, 5, 1);
        y.setBroken(0, true);
        y.merge(1);
        CHECK.equal("the queue", "[1]", Snapshot.queue(y));
        CHECK.equal("the needed one is refused", 0, y.wouldPass(1));

        Cardgate z = Setup.withChanges(1, 1);
        z.need(1, 0);
        Setup.cardIn(z, 3, 5, 0);
        Setup.cardIn(z, 3, 5, 1);
        z.merge(1);
        CHECK.equal("the needed one is in", 1, z.wouldPass(1));
        z.takeOut(0);
        CHECK.equal("it is taken out", 0, z.wouldPass(1));
    }

    private static void clashesInOrAhead() {
        Cardgate x = Setup.queuing(1, 1, 1, 1);
        x.setClash(3, 0, true);
        CHECK.equal("with one ahead", 7, x.wouldPass(4));
        CHECK.equal("in halves", 9 + 7 + 7 + 6 + 6, x.wouldTake(4, false));
        x.merge(1);
        CHECK.equal("with one that is in", 3, x.wouldPass(3));
        x.setClash(3, 0, false);
        CHECK.equal("with none", 7, x.wouldPass(3));
        x.setClash(0, 1, true);
        CHECK.equal("told the other way round", 6, x.wouldPass(3));
    }

    private static void clashesElsewhere() {
        Cardgate x = Setup.withChanges(1, 1, 1, 1);
        Setup.cardIn(x, 3, 5, 0);
        Setup.cardIn(x, 3, 5, 1, 2);
        x.setClash(1, 3, true);
        CHECK.equal("with an open one", 7, x.wouldPass(3));
        x.setClash(0, 2, true);
        CHECK.equal("with one behind", 3, x.wouldPass(3));
        CHECK.equal("with one behind the row", 3, x.wouldPass(2));
        CHECK.equal("in one try", 7, x.wouldTake(2, false));
        x.setClash(0, 1, true);
        x.setBroken(0, true);
        x.merge(1);
        CHECK.equal("with a refused one", 3, x.wouldPass(2));
        CHECK.equal("in one try", 7, x.wouldTake(2, false));
    }

    private static void passing() {
        CHECK.terms("A row of changes is tried: it passes if each of them holds behind those ahead of it "
            + "in the row.");
        for (int length = 1; length <= 8; length++) {
            Cardgate x = Setup.queuing(Setup.light(8));
            CHECK.equal("each of them holds", 5 + length, x.wouldTake(length, false));
            for (int change = 0; change < 8; change++) {
                x.setBroken(change, true);
                boolean isInTheRow = change < length;
                boolean isOneTry = x.wouldTake(length, false) == 5 + length;
                CHECK.equal("one of the row does not hold", isInTheRow && length > 1, !isOneTry);
                int all = (1 << length) - 1;
                CHECK.equal("all but that one", all & ~(1 << change), x.wouldPass(length));
                x.setBroken(change, false);
            }
        }
        Cardgate y = Setup.withChanges(Setup.light(8));
        for (int change = 1; change < 8; change++) {
            y.need(change, change - 1);
        }
        Setup.cardIn(y, 3, 5, 0, 1, 2, 3, 4, 5, 6, 7);
        CHECK.equal("each needs the one ahead of it", 13, y.wouldTake(8, false));

        Cardgate z = Setup.withChanges(1, 1, 1);
        z.need(1, 0);
        int needed = Setup.cardIn(z, 3, 5, 0);
        Setup.cardIn(z, 3, 5, 1, 2);
        CHECK.equal("the needed one is ahead", 7, z.wouldTake(2, false));
        z.moveBack(needed);
        z.move(needed);
        CHECK.equal("the queue", "[1 2 0]", Snapshot.queue(z));
        CHECK.equal("the needed one is behind", 8 + 7 + 6 + 6 + 6, z.wouldTake(3, false));
        z.setClash(2, 0, true);
        CHECK.equal("one with a clash behind it", 8 + 7 + 6 + 6 + 6, z.wouldTake(3, false));
        CHECK.equal("the earlier of both holds", 2, z.wouldPass(3));
    }

    private static void hoursOfATry() {
        CHECK.terms("A try takes 5 hours and the weights of the row, added up.");
        CHECK.equal("the lightest", 6, Setup.queuing(1).wouldTake(1, false));
        CHECK.equal("the heaviest single one", 14, Setup.queuing(9).wouldTake(1, false));
        Cardgate x = Setup.queuing(9, 9, 9, 9, 9, 9, 9, 9, 1);
        CHECK.equal("the heaviest row", 77, x.wouldTake(8, false));
        x.merge(8);
        CHECK.equal("the heaviest row", 77, x.hours());
        Cardgate y = Setup.queuing(1, 2, 3, 4, 5, 6, 7, 8);
        CHECK.equal("of the row alone", 5 + 1 + 2 + 3, y.wouldTake(3, false));
        CHECK.equal("all", 41, y.wouldTake(8, false));
    }

    private static void aRowThatPasses() {
        CHECK.terms("To merge a row: it is tried. If it passes, all of its changes become IN.");
        for (int length = 1; length <= 8; length++) {
            Cardgate x = Setup.queuing(Setup.light(9));
            CHECK.equal("one try", 1, x.merge(length));
            CHECK.equal("its hours", 5 + length, x.hours());
            for (int change = 0; change < 9; change++) {
                CHECK.equal("state", change < length ? Cardgate.IN : Cardgate.QUEUED, x.state(change));
            }
        }
    }

    private static void aSingleChange() {
        CHECK.terms("Otherwise, if it is a single change, this is REFUSED.");
        Cardgate x = Setup.withChanges(3, 3);
        Setup.cardIn(x, 3, 5, 0);
        Setup.cardIn(x, 3, 5, 1);
        x.setBroken(0, true);
        CHECK.equal("one try and no halves", 1, x.merge(1));
        CHECK.equal("its hours", 8, x.hours());
        CHECK.equal("refused", Cardgate.REFUSED, x.state(0));
        CHECK.equal("none but that", Cardgate.QUEUED, x.state(1));
        for (int length = 2; length <= 8; length++) {
            Cardgate y = Setup.queuing(Setup.light(8));
            for (int change = 0; change < length; change++) {
                y.setBroken(change, true);
            }
            CHECK.equal("down to the single ones", 2 * length - 1, y.merge(length));
            for (int change = 0; change < length; change++) {
                CHECK.equal("refused", Cardgate.REFUSED, y.state(change));
            }
        }
    }

    private static void halves() {
        CHECK.terms("Otherwise its first half (of an odd number the greater half) is merged like that, "
            + "and then the other half.");
        int[] lastIsBroken = {
            0, 6, 8 + 6 + 7, 11 + 8 + 8, 15 + 8 + 12 + 8 + 9, 20 + 11 + 14 + 9 + 10,
            26 + 11 + 20 + 14 + 11, 33 + 15 + 23 + 16 + 12, 41 + 15 + 31 + 16 + 20 + 12 + 13,
        };
        int[] firstIsBroken = {
            0, 6, 8 + 6 + 7, 11 + 8 + 6 + 7 + 8, 15 + 8 + 6 + 7 + 12, 20 + 11 + 8 + 6 + 7 + 8 + 14,
            26 + 11 + 8 + 6 + 7 + 8 + 20, 33 + 15 + 8 + 6 + 7 + 12 + 23,
            41 + 15 + 8 + 6 + 7 + 12 + 31,
        };
        for (int length = 1; length <= 8; length++) {
            Cardgate x = Setup.queuing(1, 2, 3, 4, 5, 6, 7, 8);
            x.setBroken(length - 1, true);
            CHECK.equal("last of " + length, lastIsBroken[length], x.wouldTake(length, false));
            x.setBroken(length - 1, false);
            x.setBroken(0, true);
            CHECK.equal("first of " + length, firstIsBroken[length], x.wouldTake(length, false));
            x.merge(length);
            CHECK.equal("first of " + length, firstIsBroken[length], x.hours());
        }
        // The other half comes after the first, and so has what it needs there.
        Cardgate y = Setup.withChanges(1, 1, 1, 1);
        y.need(3, 0);
        Setup.cardIn(y, 3, 5, 0, 1, 2, 3);
        y.setBroken(1, true);
        CHECK.equal("the needed one is in by then", 13, y.wouldPass(4));
        CHECK.equal("the other half is one try", 5, y.merge(4));
        CHECK.equal("in", Cardgate.IN, y.state(3));
        // And so clashes with what came in there.
        Cardgate z = Setup.queuing(1, 1, 1, 1);
        z.setBroken(1, true);
        z.setClash(0, 3, true);
        CHECK.equal("the clashing one is in by then", 7, z.merge(4));
        CHECK.equal("refused", Cardgate.REFUSED, z.state(3));
        CHECK.equal("in", Cardgate.IN, z.state(2));
    }

    private static void oneByOne() {
        CHECK.terms("To merge one by one: each change of the row is tried alone, in their order; it "
            + "becomes IN if it passes, and is REFUSED otherwise.");
        Cardgate x = Setup.withChanges(1, 2, 3, 4, 5, 6, 7, 8);
        x.need(7, 0);
        Setup.cardIn(x, 3, 5, 0, 1, 2, 3, 4, 5, 6, 7);
        int hours = 0;
        for (int length = 1; length <= 8; length++) {
            hours += 5 + length;
            CHECK.equal("each alone", hours, x.wouldTake(length, true));
            CHECK.equal("each passes", (1 << length) - 1, x.wouldPassOneByOne(length));
        }
        x.setClash(1, 2, true);
        CHECK.equal("the earlier of both", 255 - 4, x.wouldPassOneByOne(8));
        x.setBroken(1, true);
        CHECK.equal("a refused one clashes with none", 255 - 2, x.wouldPassOneByOne(8));
        x.setBroken(0, true);
        CHECK.equal("a refused one is needed", 255 - 1 - 2 - 128, x.wouldPassOneByOne(8));
        CHECK.equal("no more tries by that", hours, x.wouldTake(8, true));

        Cardgate y = Setup.withChanges(1, 1);
        y.need(1, 0);
        int needed = Setup.cardIn(y, 3, 5, 0);
        Setup.cardIn(y, 3, 5, 1);
        CHECK.equal("the needed one is first", 3, y.wouldPassOneByOne(2));
        y.moveBack(needed);
        y.move(needed);
        CHECK.equal("the needed one is second", 2, y.wouldPassOneByOne(2));
    }

    private static void notInTheQueueAnyMore() {
        CHECK.terms("When a row of the queue was merged, its changes are not in the queue any more.");
        Cardgate x = Setup.withChanges(Setup.light(10));
        for (int card = 0; card < 2; card++) {
            Setup.cardIn(x, 3, 5, 5 * card, 5 * card + 1, 5 * card + 2, 5 * card + 3, 5 * card + 4);
        }
        x.setBroken(1, true);
        x.merge(7);
        CHECK.equal("neither those that are in nor a refused one", "[7 8 9]", Snapshot.queue(x));
        CHECK.equal("it is refused, and not open", Cardgate.REFUSED, x.state(1));
        x.merge(1);
        CHECK.equal("one less", "[8 9]", Snapshot.queue(x));
        x.merge(2);
        CHECK.equal("none", "[]", Snapshot.queue(x));
        Cardgate full = Setup.queuing(Setup.light(30));
        for (int left = 22; left >= 6; left -= 8) {
            full.merge(8);
            CHECK.equal("eight less", left, full.queued());
            CHECK.equal("the first now", 30 - left, full.queuedAt(0));
        }
        full.merge(6);
        CHECK.equal("none", 0, full.queued());
    }

    private static void cardsFall() {
        CHECK.terms("Then each card in the column 3 that names a change that is REFUSED falls, by rising "
            + "numbers of cards.");
        Cardgate x = Setup.withChanges(1, 1);
        for (int k = 0; k < 3; k++) {
            Setup.cardNaming(x, 4, k == 2 ? new int[] {0, 1} : new int[] {0});
        }
        for (int card = 2; card >= 0; card--) {
            Setup.moveTo(x, card, 3);
        }
        for (int k = 0; k < 2; k++) {
            Setup.cardIn(x, 1, 4, 0);
        }
        x.setBroken(0, true);
        x.merge(1);
        CHECK.equal("the first to fall stays", "[3 4 0]", Snapshot.column(x, 1));
        CHECK.equal("the next ones are pushed", "[1 2]", Snapshot.column(x, 0));
        CHECK.equal("fallen", 1, x.falls(2));
        CHECK.equal("those that were not in the column 3 have not", 0, x.falls(3));

        Cardgate y = Setup.withChanges(1, 1, 1);
        int both = Setup.cardIn(y, 3, 5, 0, 1);
        int good = Setup.cardIn(y, 3, 5, 2);
        int reviewed = Setup.cardIn(y, 2, 5, 0);
        int waiting = Setup.cardIn(y, 0, 5, 0);
        y.setBroken(0, true);
        y.setBroken(1, true);
        y.merge(2);
        CHECK.equal("once, for two refused ones", 1, y.falls(both));
        CHECK.equal("it is in 1", 1, y.columnOf(both));
        CHECK.equal("it names none", 3, y.columnOf(good));
        CHECK.equal("it was in 2", 2, y.columnOf(reviewed));
        CHECK.equal("it was in 0", 0, y.columnOf(waiting));
        CHECK.equal("none of these fell", 0, y.falls(good) + y.falls(reviewed) + y.falls(waiting));
    }

    private static void cardsAreDone() {
        CHECK.terms("Then each card in the column 3 whose changes are all IN goes to the column 4, by "
            + "rising numbers.");
        Cardgate x = Setup.withChanges(1, 1, 1, 1);
        int bad = Setup.cardNaming(x, 5, 0, 1);
        int good = Setup.cardNaming(x, 5, 1, 2);
        int later = Setup.cardNaming(x, 5, 2, 3);
        for (int card : new int[] {later, good, bad}) {
            Setup.moveTo(x, card, 3);
        }
        CHECK.equal("the queue", "[2 3 1 0]", Snapshot.queue(x));
        int reviewed = Setup.cardIn(x, 2, 5, 2);
        x.setBroken(0, true);
        CHECK.equal("tries", 5, x.merge(4));
        CHECK.equal("by rising numbers", "[1 2]", Snapshot.column(x, 4));
        CHECK.equal("one of its changes is refused", 1, x.columnOf(bad));
        CHECK.equal("all are in, but it was in 2", 2, x.columnOf(reviewed));

        Cardgate y = Setup.withChanges(1, 1);
        int half = Setup.cardIn(y, 3, 5, 0, 1);
        int whole = Setup.cardIn(y, 3, 5, 0);
        y.merge(1);
        CHECK.equal("one of two is in", 3, y.columnOf(half));
        CHECK.equal("one of one is in", 4, y.columnOf(whole));
        y.merge(1);
        CHECK.equal("two of two are in", 4, y.columnOf(half));
    }
}
