/** Promises 1 to 6: a new object, card, name, move, moveBack, setLimit. */
public final class CardsTest {
    private static final Check CHECK = new Check("CardsTest");

    public static void main(String[] args) {
        aNewObject();
        cardIsNumbered();
        cardRefuses();
        nameCounts();
        nameRefuses();
        moveGoesOn();
        moveIsStoppedByLimits();
        moveIsStoppedInDoing();
        moveIsStoppedInReview();
        moveQueues();
        moveGoesOnToDone();
        moveBackGoesBack();
        moveBackRefuses();
        moveBackOpensChanges();
        setLimitPushesBack();
        setLimitPushesThroughAllColumns();
        setLimitOpensChanges();
        setLimitRefuses();
        CHECK.end();
    }

    private static void aNewObject() {
        Cardgate x = new Cardgate();
        CHECK.equal("new: cards", 0, x.cards());
        CHECK.equal("new: changes", 0, x.changes());
        CHECK.equal("new: queued", 0, x.queued());
        CHECK.equal("new: hours", 0, x.hours());
        CHECK.equal("new: bestLength", Cardgate.NONE, x.bestLength());
        for (int column = 0; column <= 4; column++) {
            CHECK.equal("new: cardsIn " + column, 0, x.cardsIn(column));
        }
        for (int column = 1; column <= 3; column++) {
            CHECK.equal("new: limit of " + column, 3, x.setLimit(column, 5));
        }
        x.card(1);
        CHECK.equal("new: another has cards of its own", 0, new Cardgate().cards());
    }

    private static void cardIsNumbered() {
        Cardgate x = new Cardgate();
        for (int number = 0; number < 20; number++) {
            CHECK.equal("card number", number, x.card(number % 10));
        }
        CHECK.equal("cards", 20, x.cards());
        CHECK.equal("begins waiting", 0, x.columnOf(19));
        CHECK.equal("waiting", "[9 19 8 18 7 17 6 16 5 15 4 14 3 13 2 12 1 11 0 10]",
            Snapshot.column(x, 0));
        CHECK.equal("lacks none at first", 0, x.lacks(0));
    }

    private static void cardRefuses() {
        Cardgate x = new Cardgate();
        CHECK.illegalArgument("card(-1)", x, () -> x.card(-1));
        CHECK.illegalArgument("card(10)", x, () -> x.card(10));
        CHECK.illegalArgument("card(MIN)", x, () -> x.card(Integer.MIN_VALUE));
        CHECK.illegalArgument("card(MAX)", x, () -> x.card(Integer.MAX_VALUE));
        for (int k = 0; k < 20; k++) {
            x.card(9);
        }
        CHECK.illegalState("the 21st card", x, () -> x.card(0));
        CHECK.illegalArgument("the 21st card out of range", x, () -> x.card(10));
    }

    private static void nameCounts() {
        Cardgate x = Setup.withCards(1, 1);
        for (int change = 0; change < 30; change++) {
            x.change(1);
            CHECK.equal("names so many", change + 1, x.name(0, change, true));
        }
        CHECK.equal("named again", 30, x.name(0, 29, true));
        CHECK.equal("named by the other too", 1, x.name(1, 29, true));
        CHECK.equal("named by two", 2, x.namedBy(29));
        CHECK.equal("not named any more", 29, x.name(0, 29, false));
        CHECK.equal("not named again", 29, x.name(0, 29, false));
        CHECK.equal("named by one", 1, x.namedBy(29));
        x.move(0);
        CHECK.equal("named from the column 1", 28, x.name(0, 0, false));
        CHECK.equal("named from the column 1", 29, x.name(0, 0, true));
    }

    private static void nameRefuses() {
        Cardgate x = Setup.withChanges(1, 1);
        int card = Setup.cardNaming(x, 1, 0);
        CHECK.outOfBounds("name(-1, 0)", x, () -> x.name(-1, 0, true));
        CHECK.outOfBounds("name(1, 0)", x, () -> x.name(1, 0, true));
        CHECK.outOfBounds("name(0, -1)", x, () -> x.name(card, -1, true));
        CHECK.outOfBounds("name(0, 2)", x, () -> x.name(card, 2, false));
        CHECK.outOfBounds("name(0, 32)", x, () -> x.name(card, 32, true));
        Setup.moveTo(x, card, 2);
        CHECK.illegalState("name in the column 2", x, () -> x.name(card, 1, true));
        CHECK.illegalState("name the same in the column 2", x, () -> x.name(card, 0, true));
        CHECK.outOfBounds("no change goes first", x, () -> x.name(card, 2, true));
        x.move(card);
        CHECK.illegalState("name in the column 3", x, () -> x.name(card, 0, false));
        x.merge(1);
        CHECK.equal("done", 4, x.columnOf(card));
        CHECK.illegalState("name in the column 4", x, () -> x.name(card, 1, true));
    }

    private static void moveGoesOn() {
        Cardgate x = Setup.withChanges(1);
        int card = Setup.cardNaming(x, 1, 0);
        CHECK.equal("move to 1", 1, x.move(card));
        CHECK.equal("move to 2", 2, x.move(card));
        CHECK.equal("move to 3", 3, x.move(card));
        CHECK.illegalState("move from 3", x, () -> x.move(card));
        x.merge(1);
        CHECK.illegalState("move from 4", x, () -> x.move(card));
        CHECK.outOfBounds("move(1)", x, () -> x.move(1));
        CHECK.outOfBounds("move(-1)", x, () -> x.move(-1));
    }

    private static void moveIsStoppedByLimits() {
        Cardgate x = Setup.withChanges(1);
        for (int column = 3; column >= 1; column--) {
            for (int k = 0; k < 3; k++) {
                Setup.moveTo(x, Setup.cardNaming(x, 1, 0), column);
            }
        }
        int waiting = Setup.cardNaming(x, 9, 0);
        CHECK.illegalState("to a full column 1", x, () -> x.move(waiting));
        CHECK.illegalState("to a full column 2", x, () -> x.move(6));
        CHECK.illegalState("to a full column 3", x, () -> x.move(3));
        x.setLimit(3, 4);
        CHECK.equal("to 3 again", 3, x.move(3));
        CHECK.equal("to 2 again", 2, x.move(6));
        CHECK.equal("to 1 again", 1, x.move(waiting));
        CHECK.illegalState("to 3, at the limit 4", x, () -> x.move(4));
    }

    private static void moveIsStoppedInDoing() {
        Cardgate x = Setup.withChanges(1);
        x.card(1);
        CHECK.equal("names nothing, to 1", 1, x.move(0));
        CHECK.illegalState("names nothing, to 2", x, () -> x.move(0));
        x.name(0, 0, true);
        x.name(0, 0, false);
        CHECK.illegalState("names nothing any more", x, () -> x.move(0));
        x.name(0, 0, true);
        CHECK.equal("names one", 2, x.move(0));
    }

    private static void moveIsStoppedInReview() {
        Cardgate x = Setup.withChanges(1, 1, 1);
        x.need(1, 0);
        int lower = Setup.cardNaming(x, 1, 0);
        int needing = Setup.cardNaming(x, 1, 1, 2);
        Setup.moveTo(x, needing, 2);
        CHECK.illegalState("needs an open one", x, () -> x.move(needing));
        Setup.moveTo(x, lower, 3);
        CHECK.equal("needs a queued one", 3, x.move(needing));
        x.moveBack(needing);
        x.setBroken(0, true);
        x.merge(1);
        CHECK.equal("refused", Cardgate.REFUSED, x.state(0));
        CHECK.illegalState("needs a refused one", x, () -> x.move(needing));
        x.mend(0);
        x.move(lower);
        x.move(lower);
        x.merge(1);
        CHECK.equal("in", Cardgate.IN, x.state(0));
        CHECK.equal("needs one that is in", 3, x.move(needing));

        Cardgate y = Setup.withChanges(1, 1, 1);
        y.need(1, 0);
        y.need(2, 1);
        int both = Setup.cardNaming(y, 1, 0, 1);
        int last = Setup.cardNaming(y, 1, 1, 2);
        Setup.moveTo(y, last, 2);
        CHECK.illegalState("needs of a needed one", y, () -> y.move(last));
        Setup.moveTo(y, both, 3);
        CHECK.equal("needs one that it names itself", 3, y.columnOf(both));
        y.setBroken(0, true);
        y.merge(2);
        CHECK.illegalState("one of its own is refused", y, () -> y.move(last));
        CHECK.equal("to 2 with a refused one", 2, y.move(both));
        CHECK.illegalState("names a refused one", y, () -> y.move(both));
    }

    private static void moveQueues() {
        Cardgate x = Setup.withChanges(1, 1, 1, 1, 1);
        int first = Setup.cardNaming(x, 1, 3, 1);
        int second = Setup.cardNaming(x, 1, 4, 3, 0);
        Setup.moveTo(x, first, 2);
        CHECK.equal("nothing queued in 2", "[]", Snapshot.queue(x));
        x.move(first);
        CHECK.equal("by rising numbers", "[1 3]", Snapshot.queue(x));
        Setup.moveTo(x, second, 3);
        CHECK.equal("behind, the queued one stays", "[1 3 0 4]", Snapshot.queue(x));
        CHECK.equal("named by none", Cardgate.OPEN, x.state(2));
    }

    private static void moveGoesOnToDone() {
        Cardgate x = Setup.queuing(1, 1);
        x.merge(2);
        int all = Setup.cardNaming(x, 1, 0, 1);
        Setup.moveTo(x, all, 2);
        CHECK.equal("all are in", 4, x.move(all));
        CHECK.equal("done", "[0 1]", Snapshot.column(x, 4));
        x.change(1);
        int some = Setup.cardNaming(x, 1, 0, 2);
        Setup.moveTo(x, some, 2);
        CHECK.equal("not all are in", 3, x.move(some));
        int more = Setup.cardNaming(x, 1, 0, 1);
        Setup.moveTo(x, more, 2);
        x.setLimit(3, 1);
        CHECK.illegalState("the column 3 is on the way", x, () -> x.move(more));
    }

    private static void moveBackGoesBack() {
        Cardgate x = Setup.queuing(1);
        CHECK.equal("from 3", 2, x.moveBack(0));
        CHECK.equal("from 2", 1, x.moveBack(0));
        CHECK.equal("from 1", 0, x.moveBack(0));
        CHECK.equal("not pushed", 0, x.pushes(0));
        CHECK.equal("not fallen", 0, x.falls(0));
        x.card(5);
        x.move(0);
        x.moveBack(0);
        CHECK.equal("the latest there", "[1 0]", Snapshot.column(x, 0));
    }

    private static void moveBackRefuses() {
        Cardgate x = Setup.withChanges(1);
        int card = Setup.cardNaming(x, 1, 0);
        CHECK.illegalState("from 0", x, () -> x.moveBack(card));
        CHECK.outOfBounds("moveBack(-1)", x, () -> x.moveBack(-1));
        CHECK.outOfBounds("moveBack(1)", x, () -> x.moveBack(1));
        Setup.moveTo(x, card, 3);
        for (int k = 0; k < 3; k++) {
            Setup.moveTo(x, Setup.cardNaming(x, 1, 0), 2);
        }
        CHECK.illegalState("to a full column 2", x, () -> x.moveBack(card));
        for (int k = 0; k < 3; k++) {
            Setup.moveTo(x, Setup.cardNaming(x, 1, 0), 1);
        }
        CHECK.illegalState("to a full column 1", x, () -> x.moveBack(1));
        for (int k = 0; k < 9; k++) {
            x.card(9);
        }
        CHECK.equal("the column 0 has no limit", 0, x.moveBack(4));
        CHECK.equal("to 1 again", 1, x.moveBack(1));
        CHECK.equal("to 2 again", 2, x.moveBack(card));
        x.move(card);
        x.merge(1);
        CHECK.equal("done", 4, x.columnOf(card));
        x.setLimit(3, 9);
        CHECK.illegalState("from 4", x, () -> x.moveBack(card));
    }

    private static void moveBackOpensChanges() {
        Cardgate x = Setup.withChanges(1, 1, 1);
        int first = Setup.cardNaming(x, 1, 0, 1);
        int second = Setup.cardNaming(x, 1, 1, 2);
        Setup.moveTo(x, first, 3);
        Setup.moveTo(x, second, 3);
        x.moveBack(first);
        CHECK.equal("only those that no other there names", "[1 2]", Snapshot.queue(x));
        CHECK.equal("open again", Cardgate.OPEN, x.state(0));
        CHECK.equal("still queued", Cardgate.QUEUED, x.state(1));
        x.move(first);
        CHECK.equal("behind the others now", "[1 2 0]", Snapshot.queue(x));
        int third = Setup.cardNaming(x, 1, 1);
        Setup.moveTo(x, third, 3);
        x.moveBack(second);
        CHECK.equal("named by one of two others there", "[1 0]", Snapshot.queue(x));
        x.move(second);
        CHECK.equal("the queue", "[1 0 2]", Snapshot.queue(x));
        x.moveBack(third);
        x.merge(1);
        x.moveBack(first);
        CHECK.equal("one that is in stays in", Cardgate.IN, x.state(1));
        CHECK.equal("the queue", "[2]", Snapshot.queue(x));
    }

    private static void setLimitPushesBack() {
        Cardgate x = Setup.withCards(4, 2, 7, 2, 2);
        CHECK.equal("before", 3, x.setLimit(1, 9));
        for (int card : new int[] {3, 0, 4, 2, 1}) {
            x.move(card);
        }
        CHECK.equal("in order", "[2 0 3 4 1]", Snapshot.column(x, 1));
        CHECK.equal("before", 9, x.setLimit(1, 5));
        CHECK.equal("at the limit none goes", 5, x.cardsIn(1));
        CHECK.equal("before", 5, x.setLimit(1, 2));
        CHECK.equal("the highest ranks stay", "[2 0]", Snapshot.column(x, 1));
        CHECK.equal("the latest went first", "[1 4 3]", Snapshot.column(x, 0));
        CHECK.equal("pushed", 1, x.pushes(1));
        CHECK.equal("pushed", 1, x.pushes(3));
        CHECK.equal("not pushed", 0, x.pushes(0));
        CHECK.equal("not fallen", 0, x.falls(1));
        CHECK.equal("higher again", 2, x.setLimit(1, 9));
        CHECK.equal("none comes back", 2, x.cardsIn(1));
    }

    private static void setLimitPushesThroughAllColumns() {
        Cardgate x = Setup.withChanges(1);
        for (int column = 3; column >= 1; column--) {
            for (int k = 0; k < 3; k++) {
                Setup.moveTo(x, Setup.cardNaming(x, 3 * column - k, 0), column);
            }
        }
        // Ranks: column 3 has 9 8 7, column 2 has 6 5 4, column 1 has 3 2 1.
        x.setLimit(3, 2);
        CHECK.equal("3", "[0 1]", Snapshot.column(x, 3));
        CHECK.equal("2", "[2 3 4]", Snapshot.column(x, 2));
        CHECK.equal("1", "[5 6 7]", Snapshot.column(x, 1));
        CHECK.equal("0", "[8]", Snapshot.column(x, 0));
        CHECK.equal("pushed once", 1, x.pushes(2));
        CHECK.equal("pushed once", 1, x.pushes(8));
        x.setLimit(2, 1);
        CHECK.equal("2", "[2]", Snapshot.column(x, 2));
        CHECK.equal("1", "[3 4 5]", Snapshot.column(x, 1));
        CHECK.equal("0", "[6 7 8]", Snapshot.column(x, 0));

        // A column with room takes the pushed card, and the push ends there.
        Cardgate y = Setup.withChanges(1);
        for (int column : new int[] {3, 3, 2, 1, 1, 1}) {
            Setup.moveTo(y, Setup.cardNaming(y, 1, 0), column);
        }
        y.setLimit(3, 1);
        CHECK.equal("2", "[2 1]", Snapshot.column(y, 2));
        CHECK.equal("1", "[3 4 5]", Snapshot.column(y, 1));

        // The card that comes is the latest one, and so goes on itself at the same rank.
        Cardgate z = Setup.withChanges(1);
        for (int column : new int[] {3, 3, 2, 2, 2}) {
            Setup.moveTo(z, Setup.cardNaming(z, 1, 0), column);
        }
        z.setLimit(3, 1);
        CHECK.equal("2", "[2 3 4]", Snapshot.column(z, 2));
        CHECK.equal("1", "[1]", Snapshot.column(z, 1));
        CHECK.equal("once for each column", 2, z.pushes(1));
    }

    private static void setLimitOpensChanges() {
        Cardgate x = Setup.withChanges(1, 1, 1);
        Setup.moveTo(x, Setup.cardNaming(x, 1, 0, 1), 3);
        Setup.moveTo(x, Setup.cardNaming(x, 2, 1, 2), 3);
        x.setLimit(3, 1);
        CHECK.equal("pushed to 2", 2, x.columnOf(0));
        CHECK.equal("its own is open", "[1 2]", Snapshot.queue(x));
    }

    private static void setLimitRefuses() {
        Cardgate x = Setup.withCards(1, 2, 3);
        for (int card = 0; card < 3; card++) {
            x.move(card);
        }
        CHECK.outOfBounds("the column 0", x, () -> x.setLimit(0, 3));
        CHECK.outOfBounds("the column 4", x, () -> x.setLimit(4, 3));
        CHECK.outOfBounds("the column -1", x, () -> x.setLimit(-1, 0));
        CHECK.outOfBounds("the column goes first", x, () -> x.setLimit(5, 10));
        CHECK.illegalArgument("the limit 0", x, () -> x.setLimit(1, 0));
        CHECK.illegalArgument("the limit 10", x, () -> x.setLimit(1, 10));
        CHECK.illegalArgument("the limit -1", x, () -> x.setLimit(3, -1));
        CHECK.equal("the limit stayed", 3, x.setLimit(1, 1));
        CHECK.equal("the lowest limit", 1, x.setLimit(1, 9));
        CHECK.equal("the highest limit", 9, x.setLimit(1, 9));
    }
}
