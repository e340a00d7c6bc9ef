/** Promises 21 to 31: what is told of the cards and changes as they stand. */
public final class StandTest {
    private static final Check CHECK = new Check("StandTest");

    public static void main(String[] args) {
        counts();
        columns();
        order();
        canMoveTells();
        lacksTells();
        fallsAndPushes();
        states();
        noSuchCard();
        noSuchChange();
        CHECK.end();
    }

    private static void counts() {
        Cardgate x = new Cardgate();
        for (int k = 1; k <= 20; k++) {
            x.card(0);
            CHECK.equal("cards", k, x.cards());
        }
        for (int k = 1; k <= 30; k++) {
            x.change(9);
            CHECK.equal("changes", k, x.changes());
        }
        CHECK.equal("cards", 20, x.cards());
    }

    private static void columns() {
        Cardgate x = Setup.withChanges(1, 1);
        for (int column = 0; column <= 3; column++) {
            int card = Setup.cardNaming(x, 1, column == 3 ? 1 : 0);
            Setup.moveTo(x, card, column);
            CHECK.equal("columnOf", column, x.columnOf(card));
            CHECK.equal("cardsIn", 1, x.cardsIn(column));
        }
        x.merge(1);
        CHECK.equal("columnOf", 4, x.columnOf(3));
        CHECK.equal("cardsIn 4", 1, x.cardsIn(4));
        CHECK.equal("cardsIn 3", 0, x.cardsIn(3));
        CHECK.equal("cardAt 4", 3, x.cardAt(4, 0));
        for (int column : new int[] {-1, 5, Integer.MIN_VALUE, Integer.MAX_VALUE}) {
            CHECK.outOfBounds("cardsIn " + column, x, () -> x.cardsIn(column));
            CHECK.outOfBounds("cardAt " + column, x, () -> x.cardAt(column, 0));
        }
        for (int place : new int[] {-1, 1, 20, Integer.MIN_VALUE, Integer.MAX_VALUE}) {
            CHECK.outOfBounds("cardAt 0, " + place, x, () -> x.cardAt(0, place));
        }
        CHECK.outOfBounds("cardAt 3, 0 of none", x, () -> x.cardAt(3, 0));
    }

    private static void order() {
        Cardgate x = Setup.withCards(3, 0, 9, 3, 9);
        CHECK.equal("by ranks, then as they came", "[2 4 0 3 1]", Snapshot.column(x, 0));
        x.move(0);
        x.moveBack(0);
        CHECK.equal("it came again", "[2 4 3 0 1]", Snapshot.column(x, 0));
        x.move(4);
        x.move(2);
        x.move(3);
        CHECK.equal("as they came there", "[4 2 3]", Snapshot.column(x, 1));
    }

    private static void canMoveTells() {
        Cardgate x = Setup.withChanges(1, 1, 1);
        x.need(2, 1);
        x.card(1);
        CHECK.equal("from 0", true, x.canMove(0));
        x.move(0);
        CHECK.equal("names none", false, x.canMove(0));
        x.name(0, 2, true);
        CHECK.equal("names one", true, x.canMove(0));
        x.move(0);
        CHECK.equal("needs an open one", false, x.canMove(0));
        x.moveBack(0);
        x.name(0, 1, true);
        x.move(0);
        CHECK.equal("names it", true, x.canMove(0));
        x.setBroken(1, true);
        CHECK.equal("broken, but not refused", true, x.canMove(0));
        x.setLimit(3, 1);
        int other = Setup.cardNaming(x, 1, 0);
        Setup.moveTo(x, other, 3);
        CHECK.equal("the column 3 is full", false, x.canMove(0));
        CHECK.equal("in 3", false, x.canMove(other));
        x.merge(1);
        CHECK.equal("in 4", false, x.canMove(other));
        CHECK.equal("there is room", true, x.canMove(0));
        x.move(0);
        x.merge(2);
        CHECK.equal("in 1, with refused ones", true, x.canMove(0));
        x.move(0);
        CHECK.equal("in 2, with refused ones", false, x.canMove(0));
        x.mend(1);
        CHECK.equal("one is refused still", false, x.canMove(0));
        x.mend(2);
        CHECK.equal("none is refused", true, x.canMove(0));
    }

    private static void lacksTells() {
        Cardgate x = Setup.withChanges(1, 1, 1, 1);
        int card = Setup.cardNaming(x, 1, 0, 1, 2);
        Setup.cardNaming(x, 1, 3);
        CHECK.equal("open ones", 3, x.lacks(card));
        Setup.moveTo(x, card, 3);
        CHECK.equal("queued ones", 3, x.lacks(card));
        x.merge(1);
        CHECK.equal("one is in", 2, x.lacks(card));
        x.setBroken(2, true);
        x.merge(2);
        CHECK.equal("one is refused", 1, x.lacks(card));
        x.name(card, 2, false);
        CHECK.equal("all are in", 0, x.lacks(card));
        CHECK.equal("another one", 1, x.lacks(1));
    }

    private static void fallsAndPushes() {
        Cardgate x = Setup.queuing(1);
        for (int k = 1; k <= 4; k++) {
            x.setBroken(0, true);
            x.merge(1);
            x.mend(0);
            CHECK.equal("fell again", k, x.falls(0));
            Setup.moveTo(x, 0, 3);
        }
        CHECK.equal("never pushed", 0, x.pushes(0));
        x.setLimit(3, 1);
        x.setLimit(2, 1);
        x.setLimit(1, 1);
        x.name(x.card(6), 0, true);
        x.name(x.card(7), 0, true);
        x.name(x.card(8), 0, true);
        x.moveBack(0);
        Setup.moveTo(x, 1, 1);
        x.setLimit(2, 2);
        x.setLimit(1, 2);
        Setup.moveTo(x, 2, 2);
        x.setLimit(2, 1);
        // The card 0 has the rank 5, below those of the cards 1 and 2 that meet it.
        CHECK.equal("pushed to 1", 1, x.columnOf(0));
        CHECK.equal("pushed once", 1, x.pushes(0));
        x.setLimit(1, 1);
        CHECK.equal("pushed to 0", 0, x.columnOf(0));
        CHECK.equal("pushed once more", 2, x.pushes(0));
        CHECK.equal("the higher rank stays", 0, x.pushes(1));
        CHECK.equal("not fallen by it", 4, x.falls(0));
    }

    private static void states() {
        Cardgate x = Setup.withChanges(1, 1);
        int card = Setup.cardNaming(x, 1, 0, 1);
        Setup.cardNaming(x, 1, 1);
        CHECK.equal("open", Cardgate.OPEN, x.state(0));
        CHECK.equal("named by one", 1, x.namedBy(0));
        CHECK.equal("named by two", 2, x.namedBy(1));
        x.setBroken(0, true);
        CHECK.equal("broken is no state", Cardgate.OPEN, x.state(0));
        Setup.moveTo(x, card, 3);
        CHECK.equal("queued", Cardgate.QUEUED, x.state(0));
        x.merge(2);
        CHECK.equal("refused", Cardgate.REFUSED, x.state(0));
        CHECK.equal("in", Cardgate.IN, x.state(1));
        CHECK.equal("named by two in whatever columns", 2, x.namedBy(1));
        x.name(card, 1, false);
        CHECK.equal("named by the other", 1, x.namedBy(1));
    }

    private static void noSuchCard() {
        Cardgate x = Setup.withCards(1, 1);
        for (int card : new int[] {-1, 2, 20, Integer.MIN_VALUE, Integer.MAX_VALUE}) {
            CHECK.outOfBounds("columnOf " + card, x, () -> x.columnOf(card));
            CHECK.outOfBounds("canMove " + card, x, () -> x.canMove(card));
            CHECK.outOfBounds("lacks " + card, x, () -> x.lacks(card));
            CHECK.outOfBounds("falls " + card, x, () -> x.falls(card));
            CHECK.outOfBounds("pushes " + card, x, () -> x.pushes(card));
        }
    }

    private static void noSuchChange() {
        Cardgate x = Setup.withChanges(1, 1);
        for (int change : new int[] {-1, 2, 30, Integer.MIN_VALUE, Integer.MAX_VALUE}) {
            CHECK.outOfBounds("state " + change, x, () -> x.state(change));
            CHECK.outOfBounds("namedBy " + change, x, () -> x.namedBy(change));
        }
    }
}
