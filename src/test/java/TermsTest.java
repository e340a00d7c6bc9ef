/** 'Terms', sentence by sentence: cards and columns, changes, exceptions. TriesTest has the tries. */
public final class TermsTest {
    private static final Check CHECK = new Check("TermsTest");

    public static void main(String[] args) {
        atMost20Cards();
        ranksAndNames();
        columns();
        beginsInTheColumn0();
        limits();
        theLatestOne();
        pushingBack();
        falling();
        atMost30Changes();
        weightsAndNeeds();
        neitherBrokenNorClashing();
        states();
        theQueue();
        comingToTheMerging();
        leavingTheMerging();
        indexOutOfBounds();
        illegalArgument();
        illegalState();
        theFirstLineDecides();
        aThrowChangesNothing();
        CHECK.end();
    }

    // ---- cards, columns

    private static void atMost20Cards() {
        CHECK.terms("There are at most 20 cards, numbered from 0.");
        Cardgate x = new Cardgate();
        CHECK.outOfBounds("the card 0 of none", x, () -> x.columnOf(0));
        for (int number = 0; number < 20; number++) {
            CHECK.equal("number", number, x.card(number % 10));
        }
        CHECK.equal("the last one is there", 0, x.columnOf(19));
        CHECK.outOfBounds("the card 20", x, () -> x.columnOf(20));
        CHECK.illegalState("a 21st card", x, () -> x.card(0));
        CHECK.equal("as many as there were", 20, x.cards());
    }

    private static void ranksAndNames() {
        CHECK.terms("A card has a rank, 0 to 9, and names some changes.");
        Cardgate x = Setup.withCards(0, 1, 2, 3, 4, 5, 6, 7, 8, 9);
        CHECK.equal("each rank is another", "[9 8 7 6 5 4 3 2 1 0]", Snapshot.column(x, 0));
        CHECK.illegalArgument("a lower rank", x, () -> x.card(-1));
        CHECK.illegalArgument("a higher rank", x, () -> x.card(10));
        for (int change = 0; change < 30; change++) {
            x.change(1);
            CHECK.equal("named by none at first", 0, x.namedBy(change));
        }
        CHECK.equal("it names none at first", 0, x.lacks(0));
        for (int change = 0; change < 30; change++) {
            x.name(0, change, true);
        }
        CHECK.equal("it may name all", 30, x.lacks(0));
        CHECK.equal("others name none by that", 0, x.lacks(1));
    }

    private static void columns() {
        CHECK.terms("It is in a column: 0 waiting, 1 doing, 2 review, 3 merging, or 4 done.");
        Cardgate x = Setup.withChanges(1);
        int card = Setup.cardNaming(x, 5, 0);
        CHECK.illegalState("none is ahead of 0", x, () -> x.moveBack(card));
        for (int column = 0; column <= 4; column++) {
            CHECK.equal("it is there", column, x.columnOf(card));
            for (int other = 0; other <= 4; other++) {
                CHECK.equal("and in no other", other == column ? 1 : 0, x.cardsIn(other));
            }
            if (column < 3) {
                x.move(card);
            } else if (column == 3) {
                x.merge(1);
            }
        }
        CHECK.illegalState("none is behind 4", x, () -> x.move(card));
        CHECK.outOfBounds("there is no column 5", x, () -> x.cardsIn(5));
        CHECK.outOfBounds("there is no column -1", x, () -> x.cardsIn(-1));
    }

    private static void beginsInTheColumn0() {
        CHECK.terms("It begins in the column 0.");
        Cardgate x = Setup.withChanges(1);
        for (int k = 0; k < 20; k++) {
            CHECK.equal("it begins there", 0, x.columnOf(x.card(9 - k % 10)));
            CHECK.equal("however many are there", k + 1, x.cardsIn(0));
        }
    }

    private static void limits() {
        CHECK.terms("The columns 1 to 3 have limits, 3 at first: how many cards may be there.");
        for (int column = 1; column <= 3; column++) {
            CHECK.equal("at first", 3, new Cardgate().setLimit(column, 3));
            Cardgate x = Setup.withChanges(1);
            for (int k = 1; k <= 3; k++) {
                Setup.cardIn(x, column, 5, 0);
                CHECK.equal("three may be there", k, x.cardsIn(column));
            }
            int fourth = Setup.cardIn(x, column - 1, 9, 0);
            CHECK.illegalState("a fourth may not", x, () -> x.move(fourth));
        }
        Cardgate y = Setup.queuing(1);
        y.merge(1);
        for (int k = 1; k < 20; k++) {
            Setup.cardIn(y, 4, 5, 0);
        }
        CHECK.equal("the column 4 has no limit", 20, y.cardsIn(4));
        Cardgate z = Setup.withCards(Setup.light(20));
        z.move(19);
        z.moveBack(19);
        CHECK.equal("the column 0 has no limit", 20, z.cardsIn(0));
        CHECK.outOfBounds("nor one to set", z, () -> z.setLimit(0, 1));
        CHECK.outOfBounds("nor one to set", z, () -> z.setLimit(4, 1));
    }

    private static void theLatestOne() {
        CHECK.terms("Whenever a card comes to a column, by whatever, it is the latest one there.");
        latestByMoving();
        latestByPushing();
        latestByFalling();
        latestInDone();
    }

    private static void latestByMoving() {
        Cardgate x = Setup.withChanges(1);
        for (int k = 0; k < 3; k++) {
            Setup.cardNaming(x, 5, 0);
        }
        CHECK.equal("added", "[0 1 2]", Snapshot.column(x, 0));
        CHECK.equal("moved to 1", "[2 0 1]", movedIn(x, 1, 2, 0, 1));
        CHECK.equal("moved to 2", "[1 2 0]", movedIn(x, 2, 1, 2, 0));
        CHECK.equal("moved to 3", "[0 2 1]", movedIn(x, 3, 0, 2, 1));
        CHECK.equal("moved back to 2", "[1 0 2]", movedBackIn(x, 2, 1, 0, 2));
        CHECK.equal("moved back to 1", "[2 1 0]", movedBackIn(x, 1, 2, 1, 0));
        CHECK.equal("moved back to 0", "[0 2 1]", movedBackIn(x, 0, 0, 2, 1));
        x.move(0);
        x.card(5);
        x.moveBack(0);
        CHECK.equal("it came there again", "[2 1 3 0]", Snapshot.column(x, 0));
    }

    private static String movedIn(Cardgate x, int column, int... cards) {
        for (int card : cards) {
            x.move(card);
        }
        return Snapshot.column(x, column);
    }

    private static String movedBackIn(Cardgate x, int column, int... cards) {
        for (int card : cards) {
            x.moveBack(card);
        }
        return Snapshot.column(x, column);
    }

    private static void latestByPushing() {
        for (int column = 1; column <= 3; column++) {
            Cardgate x = Setup.withChanges(1);
            int early = Setup.cardIn(x, column, 5, 0);
            int stays = Setup.cardIn(x, column, 6, 0);
            int between = Setup.cardIn(x, column - 1, 5, 0);
            x.setLimit(column, 1);
            CHECK.equal("stays", column, x.columnOf(stays));
            CHECK.equal("pushed behind the one that was there", early,
                x.cardAt(column - 1, 1));
            CHECK.equal("that one is ahead of it", between, x.cardAt(column - 1, 0));
        }
    }

    private static void latestByFalling() {
        Cardgate x = Setup.withChanges(1, 1);
        int falling = Setup.cardIn(x, 3, 5, 0);
        int there = Setup.cardIn(x, 1, 5, 1);
        x.setBroken(0, true);
        x.merge(1);
        CHECK.equal("refused", "[1 0]", Snapshot.column(x, 1));
        x.mend(0);
        Setup.moveTo(x, falling, 3);
        x.merge(1);
        x.moveBack(there);
        x.move(there);
        x.takeOut(0);
        CHECK.equal("taken out", "[1 0]", Snapshot.column(x, 1));
    }

    private static void latestInDone() {
        Cardgate x = Setup.withChanges(1, 1);
        int first = Setup.cardIn(x, 3, 5, 0, 1);
        x.merge(1);
        int atOnce = Setup.cardIn(x, 2, 5, 0);
        CHECK.equal("it goes on at once", 4, x.move(atOnce));
        x.merge(1);
        CHECK.equal("merged later", "[1 0]", Snapshot.column(x, 4));
        int last = Setup.cardIn(x, 2, 5, 1);
        x.move(last);
        CHECK.equal("at once, and later", "[1 0 2]", Snapshot.column(x, 4));
        CHECK.equal("the first one is done", 4, x.columnOf(first));
    }

    private static void pushingBack() {
        CHECK.terms("To push back in a column: of the cards with the lowest rank there the latest one "
            + "goes to the column ahead of it; if that is above its limit then, it is pushed back "
            + "there in turn.");
        theLatestOfTheLowest();
        aboveTheLimitOnly();
        inTurn();
        inTurnThroughAll();
    }

    private static void theLatestOfTheLowest() {
        Cardgate x = Setup.withCards(1, 0, 9, 0, 1, 9);
        x.setLimit(1, 9);
        for (int card : new int[] {3, 1, 4, 5, 0, 2}) {
            x.move(card);
        }
        int[] due = {1, 3, 0, 4, 2};
        for (int k = 0; k < due.length; k++) {
            x.setLimit(1, 5 - k);
            CHECK.equal("the next one goes", 0, x.columnOf(due[k]));
            CHECK.equal("and it alone", 5 - k, x.cardsIn(1));
        }
        CHECK.equal("the first of the highest stays", 1, x.columnOf(5));
    }

    private static void aboveTheLimitOnly() {
        Cardgate x = Setup.withChanges(1);
        for (int column : new int[] {3, 3, 2, 2, 1, 1, 1}) {
            Setup.cardIn(x, column, 5, 0);
        }
        x.setLimit(3, 1);
        CHECK.equal("at its limit it is not pushed in turn", "[2 3 1]", Snapshot.column(x, 2));
        CHECK.equal("nor ahead of it", "[4 5 6]", Snapshot.column(x, 1));
        x.setLimit(2, 2);
        CHECK.equal("above its limit it is", "[4 5 6]", Snapshot.column(x, 1));
        CHECK.equal("the latest one there", "[1]", Snapshot.column(x, 0));
        CHECK.equal("once for each column", 3, x.pushes(1));
    }

    private static void inTurn() {
        for (int rank : new int[] {4, 5, 6}) {
            Cardgate x = Setup.withChanges(1);
            int pushed = Setup.cardIn(x, 3, rank, 0);
            Setup.cardIn(x, 3, 7, 0);
            Setup.cardIn(x, 2, 5, 0);
            int latest = Setup.cardIn(x, 2, 5, 0);
            Setup.cardIn(x, 2, 6, 0);
            x.setLimit(3, 1);
            CHECK.equal("the same card or a lower one", 1, x.columnOf(rank == 6 ? latest : pushed));
            CHECK.equal("the one that came", rank == 6 ? 2 : 1, x.columnOf(pushed));
            CHECK.equal("one went on", 1, x.cardsIn(1));
            CHECK.equal("as many as the limit stay", 3, x.cardsIn(2));
            CHECK.equal("pushes", rank == 6 ? 1 : 2, x.pushes(pushed));
            CHECK.equal("pushes", rank == 6 ? 1 : 0, x.pushes(latest));
        }
    }

    private static void inTurnThroughAll() {
        Cardgate x = Setup.withChanges(1);
        for (int column = 3; column >= 1; column--) {
            for (int k = 0; k < 3; k++) {
                Setup.cardIn(x, column, 3 * column - k, 0);
            }
        }
        for (int k = 0; k < 11; k++) {
            x.card(9);
        }
        // Ranks: column 3 has 9 8 7, column 2 has 6 5 4, column 1 has 3 2 1.
        x.setLimit(3, 2);
        CHECK.equal("3", "[0 1]", Snapshot.column(x, 3));
        CHECK.equal("2", "[2 3 4]", Snapshot.column(x, 2));
        CHECK.equal("1", "[5 6 7]", Snapshot.column(x, 1));
        CHECK.equal("the column 0 takes any number", 12, x.cardsIn(0));
        CHECK.equal("the lowest of the column 1", 0, x.columnOf(8));
        for (int card : new int[] {2, 5, 8}) {
            CHECK.equal("pushed once", 1, x.pushes(card));
        }
    }

    private static void falling() {
        CHECK.terms("To fall: a card goes to the column 1; if that is above its limit then, it is "
            + "pushed back there (perhaps the same card).");
        // Two in the column 1: the card that falls makes them as many as the limit.
        Cardgate room = fallingOnto(0, 9, 9);
        CHECK.equal("at the limit none is pushed", "[1 2 0]", Snapshot.column(room, 1));
        CHECK.equal("none is pushed", 0, room.pushes(0));
        Cardgate same = fallingOnto(5, 5, 5, 5);
        CHECK.equal("the same card, being the latest", "[1 2 3]", Snapshot.column(same, 1));
        CHECK.equal("pushed", 1, same.pushes(0));
        CHECK.equal("fallen", 1, same.falls(0));
        Cardgate lowest = fallingOnto(4, 5, 5, 5);
        CHECK.equal("the same card, being the lowest", 0, lowest.columnOf(0));
        Cardgate other = fallingOnto(5, 9, 4, 4);
        CHECK.equal("another card", "[1 0 2]", Snapshot.column(other, 1));
        CHECK.equal("it is in 0", "[3]", Snapshot.column(other, 0));
        CHECK.equal("pushed", 1, other.pushes(3));
        CHECK.equal("not fallen", 0, other.falls(3));
        CHECK.equal("not pushed", 0, other.pushes(0));

        // The columns between are not on the way, however full.
        Cardgate y = Setup.withChanges(1, 1);
        int done = Setup.cardIn(y, 3, 5, 0);
        y.merge(1);
        for (int column : new int[] {3, 3, 3, 2, 2, 2}) {
            Setup.cardIn(y, column, 0, 1);
        }
        y.takeOut(0);
        CHECK.equal("from 4 to 1", 1, y.columnOf(done));
        CHECK.equal("2 is as it was", 3, y.cardsIn(2));
        CHECK.equal("3 is as it was", 3, y.cardsIn(3));
    }

    /** The card 0, of this rank, fell onto cards of these ranks in the column 1. */
    private static Cardgate fallingOnto(int rank, int... there) {
        Cardgate x = Setup.withChanges(1);
        Setup.cardIn(x, 3, rank, 0);
        for (int other : there) {
            Setup.cardIn(x, 1, other);
        }
        x.setBroken(0, true);
        x.merge(1);
        return x;
    }

    // ---- changes

    private static void atMost30Changes() {
        CHECK.terms("There are at most 30 changes, numbered from 0.");
        Cardgate x = new Cardgate();
        CHECK.outOfBounds("the change 0 of none", x, () -> x.state(0));
        for (int number = 0; number < 30; number++) {
            CHECK.equal("number", number, x.change(number % 9 + 1));
        }
        CHECK.equal("the last one is there", Cardgate.OPEN, x.state(29));
        CHECK.outOfBounds("the change 30", x, () -> x.state(30));
        CHECK.illegalState("a 31st change", x, () -> x.change(1));
        CHECK.equal("as many as there were", 30, x.changes());
    }

    private static void weightsAndNeeds() {
        CHECK.terms("A change has a weight, 1 to 9 hours, and needs some changes with lower numbers.");
        for (int weight = 1; weight <= 9; weight++) {
            CHECK.equal("hours", 5 + weight, Setup.queuing(weight).wouldTake(1, false));
        }
        Cardgate x = Setup.withChanges(Setup.light(30));
        CHECK.illegalArgument("a lower weight", x, () -> x.change(0));
        CHECK.illegalArgument("a higher weight", x, () -> x.change(10));
        CHECK.illegalArgument("needing itself", x, () -> x.need(29, 29));
        CHECK.illegalArgument("needing a higher one", x, () -> x.need(28, 29));
        CHECK.illegalArgument("the first needs none", x, () -> x.need(0, 0));
        for (int other = 28; other >= 0; other--) {
            CHECK.equal("it needs none at first, and may need all that are lower", 29 - other,
                x.need(29, other));
        }
    }

    private static void neitherBrokenNorClashing() {
        CHECK.terms("It can be broken, and two changes can clash; neither is so at first.");
        Cardgate x = Setup.withChanges(Setup.light(30));
        for (int change = 0; change < 30; change++) {
            for (int other = 0; other < change; other++) {
                CHECK.equal("clash at first", false, x.setClash(change, other, true));
                CHECK.equal("clash", true, x.setClash(other, change, true));
            }
            CHECK.equal("broken at first", false, x.setBroken(change, true));
            CHECK.equal("broken", true, x.setBroken(change, true));
        }
    }

    private static void states() {
        CHECK.terms("A change is OPEN at first, QUEUED, IN, or REFUSED.");
        Cardgate x = Setup.withChanges(1, 1);
        int card = Setup.cardNaming(x, 5, 0, 1);
        CHECK.equal("at first", Cardgate.OPEN, x.state(0));
        CHECK.equal("at first", Cardgate.OPEN, x.state(1));
        x.setBroken(1, true);
        CHECK.equal("broken is no state", Cardgate.OPEN, x.state(1));
        Setup.moveTo(x, card, 2);
        CHECK.equal("in the column 2", Cardgate.OPEN, x.state(0));
        x.move(card);
        CHECK.equal("in the column 3", Cardgate.QUEUED, x.state(0));
        x.merge(2);
        CHECK.equal("merged", Cardgate.IN, x.state(0));
        CHECK.equal("merged", Cardgate.REFUSED, x.state(1));
        CHECK.equal("a new one", Cardgate.OPEN, x.state(x.change(1)));
    }

    private static void theQueue() {
        CHECK.terms("The queue has the QUEUED changes, in the order in which they came.");
        Cardgate x = Setup.withChanges(1, 1, 1, 1);
        CHECK.equal("none", "[]", Snapshot.queue(x));
        Setup.cardIn(x, 3, 5, 3);
        int low = Setup.cardIn(x, 3, 5, 0);
        Setup.cardIn(x, 3, 5, 2);
        CHECK.equal("as they came", "[3 0 2]", Snapshot.queue(x));
        x.moveBack(low);
        CHECK.equal("one is open again", "[3 2]", Snapshot.queue(x));
        x.move(low);
        CHECK.equal("it came again, behind the others", "[3 2 0]", Snapshot.queue(x));
        Cardgate y = Setup.queuing(Setup.light(30));
        CHECK.equal("all changes there can be", 30, y.queued());
        for (int place = 0; place < 30; place++) {
            CHECK.equal("each has a place", place, y.queuedAt(place));
            CHECK.equal("and is queued", Cardgate.QUEUED, y.state(place));
        }
        y.moveBack(0);
        CHECK.equal("none is queued any more", "[]", Snapshot.queue(y));
        y.move(0);
        CHECK.equal("all are again", 30, y.queued());
    }

    private static void comingToTheMerging() {
        CHECK.terms("When a card comes from the column 2 to the column 3, those of its changes that are "
            + "OPEN become QUEUED, by rising numbers; if all of its changes are IN, the card goes on "
            + "to the column 4 at once.");
        Cardgate x = Setup.withChanges(1, 1, 1, 1, 1);
        int first = Setup.cardIn(x, 2, 5, 3, 1);
        CHECK.equal("none is queued in 2", "[]", Snapshot.queue(x));
        x.move(first);
        CHECK.equal("by rising numbers", "[1 3]", Snapshot.queue(x));
        Setup.cardIn(x, 3, 5, 4, 3, 0);
        CHECK.equal("a queued one keeps its place", "[1 3 0 4]", Snapshot.queue(x));
        CHECK.equal("named by none", Cardgate.OPEN, x.state(2));
        Setup.cardIn(x, 3, 5, 4, 3);
        CHECK.equal("all are queued already", "[1 3 0 4]", Snapshot.queue(x));
        CHECK.equal("so it stays", 3, x.columnOf(2));
        x.merge(4);
        int all = Setup.cardIn(x, 2, 5, 0, 1, 3, 4);
        CHECK.equal("all are in", 4, x.move(all));
        CHECK.equal("it is there", 4, x.columnOf(all));
        CHECK.equal("none is queued by that", "[]", Snapshot.queue(x));
        int most = Setup.cardIn(x, 2, 5, 0, 1, 2, 3, 4);
        CHECK.equal("all but one are in", 3, x.move(most));
        CHECK.equal("that one is queued", "[2]", Snapshot.queue(x));
        CHECK.equal("the others are in", Cardgate.IN, x.state(4));
    }

    private static void leavingTheMerging() {
        CHECK.terms("Whenever a card leaves the column 3 other than to the column 4, those of its "
            + "changes that are QUEUED and that no card in the column 3 names then become OPEN.");
        leavingByMovingBack();
        leavingSeveral();
        leavingByPushing();
        leavingByFalling();
        leavingToDone();
    }

    private static void leavingByMovingBack() {
        Cardgate x = Setup.withChanges(1, 1, 1, 1, 1);
        Setup.cardIn(x, 3, 5, 4);
        x.merge(1);
        int leaving = Setup.cardIn(x, 3, 5, 0, 1, 2, 4);
        int staying = Setup.cardIn(x, 3, 5, 1, 3);
        Setup.cardIn(x, 2, 5, 2);
        x.moveBack(leaving);
        CHECK.equal("no other names it", Cardgate.OPEN, x.state(0));
        CHECK.equal("one in the column 3 names it", Cardgate.QUEUED, x.state(1));
        CHECK.equal("one in the column 2 alone names it", Cardgate.OPEN, x.state(2));
        CHECK.equal("the card does not name it", Cardgate.QUEUED, x.state(3));
        CHECK.equal("it is in", Cardgate.IN, x.state(4));
        CHECK.equal("the queue", "[1 3]", Snapshot.queue(x));
        x.moveBack(staying);
        CHECK.equal("the last one that names it leaves", Cardgate.OPEN, x.state(1));
        CHECK.equal("the queue", "[]", Snapshot.queue(x));
    }

    /** Each of the others that stay there counts, and not the last one alone. */
    private static void leavingSeveral() {
        for (int naming = 0; naming < 4; naming++) {
            Cardgate x = Setup.withChanges(1, 1, 1);
            x.setLimit(3, 5);
            for (int card = 0; card < 4; card++) {
                Setup.cardIn(x, 3, 5, card == naming ? 0 : 1);
            }
            int leaving = Setup.cardIn(x, 3, 5, 0, 2);
            x.moveBack(leaving);
            CHECK.equal("one of several names it", Cardgate.QUEUED, x.state(0));
            CHECK.equal("it does not name it", Cardgate.QUEUED, x.state(1));
            CHECK.equal("none of several names it", Cardgate.OPEN, x.state(2));
            x.moveBack(naming);
            CHECK.equal("none of several names it any more", Cardgate.OPEN, x.state(0));
            CHECK.equal("the queue", "[1]", Snapshot.queue(x));
        }
    }

    private static void leavingByPushing() {
        Cardgate x = Setup.withChanges(1, 1, 1);
        Setup.cardIn(x, 3, 6, 0);
        Setup.cardIn(x, 3, 5, 0, 1, 2);
        Setup.cardIn(x, 3, 4, 1);
        x.setLimit(3, 2);
        CHECK.equal("another one names it", "[0 1 2]", Snapshot.queue(x));
        x.setLimit(3, 1);
        CHECK.equal("the last ones that name them left", "[0]", Snapshot.queue(x));
        CHECK.equal("open", Cardgate.OPEN, x.state(1));
        CHECK.equal("open", Cardgate.OPEN, x.state(2));
        CHECK.equal("queued", Cardgate.QUEUED, x.state(0));
        x.setLimit(2, 1);
        CHECK.equal("leaving the column 2 opens none", "[0]", Snapshot.queue(x));
    }

    private static void leavingByFalling() {
        for (boolean isRefused : new boolean[] {true, false}) {
            Cardgate x = Setup.withChanges(1, 1, 1, 1, 1);
            Setup.cardIn(x, 3, 5, 0, 1, 2, 4);
            Setup.cardIn(x, 3, 5, 0, 4);
            Setup.cardIn(x, 3, 5, 1, 3);
            x.setBroken(0, isRefused);
            x.merge(1);
            if (!isRefused) {
                x.takeOut(0);
            }
            CHECK.equal("what they fell for", isRefused ? Cardgate.REFUSED : Cardgate.OPEN, x.state(0));
            CHECK.equal("one that stays names it", Cardgate.QUEUED, x.state(1));
            CHECK.equal("no other named it", Cardgate.OPEN, x.state(2));
            CHECK.equal("both that named it fell", Cardgate.OPEN, x.state(4));
            CHECK.equal("the queue", "[1 3]", Snapshot.queue(x));
        }
    }

    private static void leavingToDone() {
        Cardgate x = Setup.withChanges(1, 1);
        Setup.cardIn(x, 3, 5, 0);
        Setup.cardIn(x, 3, 5, 0, 1);
        x.merge(1);
        CHECK.equal("done", 4, x.columnOf(0));
        CHECK.equal("its change is in", Cardgate.IN, x.state(0));
        CHECK.equal("the other's waits", "[1]", Snapshot.queue(x));
    }

    // ---- exceptions

    private static void indexOutOfBounds() {
        CHECK.terms("IndexOutOfBoundsException: there is no such card, change, column or place.");
        Cardgate x = Setup.queuing(1);
        for (int number : Setup.beyond(1)) {
            CHECK.outOfBounds("card", x, () -> x.move(number));
            CHECK.outOfBounds("change", x, () -> x.mend(number));
            CHECK.outOfBounds("place of the queue", x, () -> x.queuedAt(number));
            CHECK.outOfBounds("place of a column", x, () -> x.cardAt(3, number));
        }
        for (int column : Setup.beyond(5)) {
            CHECK.outOfBounds("column", x, () -> x.cardsIn(column));
        }
    }

    private static void illegalArgument() {
        CHECK.terms("IllegalArgumentException: another argument is out of its range.");
        Cardgate x = Setup.queuing(1);
        for (int number : new int[] {-1, 10, 42, Integer.MIN_VALUE, Integer.MAX_VALUE}) {
            CHECK.illegalArgument("rank", x, () -> x.card(number));
            CHECK.illegalArgument("limit", x, () -> x.setLimit(1, number));
            CHECK.illegalArgument("weight", x, () -> x.change(number));
            CHECK.illegalArgument("length", x, () -> x.merge(number));
        }
    }

    private static void illegalState() {
        CHECK.terms("IllegalStateException: as the method says.");
        Cardgate x = Setup.queuing(1);
        CHECK.illegalState("move", x, () -> x.move(0));
        CHECK.illegalState("name", x, () -> x.name(0, 0, false));
        CHECK.illegalState("mend", x, () -> x.mend(0));
        CHECK.illegalState("takeOut", x, () -> x.takeOut(0));
        CHECK.illegalState("merge", x, () -> x.merge(2));
    }

    private static void theFirstLineDecides() {
        CHECK.terms("The first line of a method's throws clause that applies decides; a call that "
            + "throws changes nothing.");
        Cardgate x = Setup.withCards(Setup.light(20));
        Setup.addChanges(x, Setup.light(30));
        CHECK.illegalArgument("card: rank ahead of 20", x, () -> x.card(10));
        CHECK.illegalArgument("change: weight ahead of 30", x, () -> x.change(10));
        for (int length : new int[] {0, 9}) {
            CHECK.illegalArgument("merge: length ahead of none", x, () -> x.merge(length));
            CHECK.illegalArgument("wouldPass", x, () -> x.wouldPass(length));
            CHECK.illegalArgument("wouldPassOneByOne", x, () -> x.wouldPassOneByOne(length));
            CHECK.illegalArgument("wouldTake", x, () -> x.wouldTake(length, false));
            CHECK.illegalArgument("wouldTake", x, () -> x.wouldTake(length, true));
        }
        CHECK.outOfBounds("setLimit: column ahead of limit", x, () -> x.setLimit(0, 0));
        CHECK.outOfBounds("setLimit: column ahead of limit", x, () -> x.setLimit(4, 10));
        CHECK.outOfBounds("need: no change ahead of not lower", x, () -> x.need(0, 30));
        CHECK.outOfBounds("need: no change ahead of not lower", x, () -> x.need(30, 30));
        CHECK.outOfBounds("need: no change ahead of not lower", x, () -> x.need(-1, 0));
        CHECK.outOfBounds("setClash: no change ahead of same", x, () -> x.setClash(30, 30, true));
        CHECK.outOfBounds("setClash: no change ahead of same", x, () -> x.setClash(-1, -1, true));

        Cardgate y = Setup.queuing(1, 1);
        CHECK.outOfBounds("name: no change ahead of the column 3", y, () -> y.name(0, 2, true));
        CHECK.illegalArgument("need: not lower ahead of queued", y, () -> y.need(1, 1));
        CHECK.outOfBounds("need: no change ahead of queued", y, () -> y.need(1, 2));
        y.merge(2);
        CHECK.illegalArgument("need: not lower ahead of in", y, () -> y.need(0, 1));
        CHECK.illegalArgument("setClash: same ahead of in", y, () -> y.setClash(1, 1, true));
        CHECK.outOfBounds("setClash: no change ahead of in", y, () -> y.setClash(1, 2, true));
    }

    /** What Snapshot does not see: limits, needs, what is broken, and what clashes. */
    private static void aThrowChangesNothing() {
        CHECK.terms("a call that throws changes nothing.");
        Cardgate x = Setup.withChanges(1, 1, 1, 1);
        for (int column = 1; column <= 3; column++) {
            int refused = column;
            CHECK.illegalArgument("limit", x, () -> x.setLimit(refused, 0));
            CHECK.illegalArgument("limit", x, () -> x.setLimit(refused, 10));
            CHECK.equal("the limit is as it was", 3, x.setLimit(column, 3));
        }
        CHECK.illegalArgument("need", x, () -> x.need(1, 2));
        CHECK.illegalArgument("need", x, () -> x.need(1, 1));
        CHECK.equal("it needed none", 1, x.need(1, 0));
        CHECK.illegalArgument("need", x, () -> x.need(0, 1));
        Setup.cardIn(x, 3, 5, 0, 1, 2);
        CHECK.illegalState("need, queued", x, () -> x.need(2, 0));
        CHECK.illegalState("need, queued", x, () -> x.need(2, 1));
        x.setBroken(2, true);
        CHECK.illegalState("mend, queued", x, () -> x.mend(2));
        CHECK.equal("it is broken still", true, x.setBroken(2, false));
        x.merge(3);
        CHECK.illegalState("broken, in", x, () -> x.setBroken(0, true));
        CHECK.illegalState("clash, in", x, () -> x.setClash(0, 1, true));
        CHECK.illegalArgument("clash, same", x, () -> x.setClash(1, 1, true));
        CHECK.illegalState("takeOut, needed", x, () -> x.takeOut(0));
        CHECK.equal("it needs none still", 0, needsOnceTakenOut(x));
        CHECK.equal("it is not broken", false, x.setBroken(0, false));
        CHECK.equal("they do not clash", false, x.setClash(0, 1, false));
    }

    /** Takes the changes 2, 1 and 0 out; returns how many the change 2 needed. */
    private static int needsOnceTakenOut(Cardgate x) {
        x.takeOut(2);
        x.takeOut(1);
        x.takeOut(0);
        return x.need(2, 0) - 1;
    }
}
