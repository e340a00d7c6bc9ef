/** Promises 21 to 31, sentence by sentence: what is told of the cards and changes as they stand. */
public final class StandTest {
    private static final Check CHECK = new Check("StandTest");

    public static void main(String[] args) {
        cardsReturns();
        changesReturns();
        columnOfReturns();
        columnOfNone();
        cardsInReturns();
        cardsInColumn();
        cardsInNoColumn();
        cardAtReturns();
        cardAtColumn();
        cardAtPlace();
        cardAtNone();
        canMoveTells();
        canMoveOfNone();
        lacksReturns();
        lacksOfNone();
        fallsReturns();
        fallsOfNone();
        pushesReturns();
        pushesOfNone();
        stateReturns();
        stateOfNone();
        namedByReturns();
        namedByOfNone();
        CHECK.end();
    }

    // ---- promises 21 and 22: cards, changes

    private static void cardsReturns() {
        CHECK.promise(21, "Returns how many cards there are.");
        Cardgate x = new Cardgate();
        CHECK.equal("none", 0, x.cards());
        for (int count = 1; count <= 20; count++) {
            x.card(0);
            CHECK.equal("so many", count, x.cards());
        }
        CHECK.illegalArgument("a refused one", x, () -> x.card(10));
        CHECK.illegalState("one too many", x, () -> x.card(0));
        CHECK.equal("20 still", 20, x.cards());
        Cardgate y = Setup.queuing(1);
        y.merge(1);
        CHECK.equal("done ones count too", 1, y.cards());
    }

    private static void changesReturns() {
        CHECK.promise(22, "Returns how many changes there are.");
        Cardgate x = new Cardgate();
        CHECK.equal("none", 0, x.changes());
        for (int count = 1; count <= 30; count++) {
            x.change(9);
            CHECK.equal("so many", count, x.changes());
        }
        CHECK.illegalArgument("a refused one", x, () -> x.change(0));
        CHECK.illegalState("one too many", x, () -> x.change(1));
        CHECK.equal("30 still", 30, x.changes());
        Cardgate y = Setup.queuing(1, 1, 1);
        y.setBroken(1, true);
        y.merge(2);
        CHECK.equal("in whatever state", 3, y.changes());
    }

    // ---- promise 23: columnOf

    private static void columnOfReturns() {
        CHECK.promise(23, "Returns 0 to 4.");
        Cardgate x = Setup.withChanges(1, 1);
        for (int column = 0; column <= 3; column++) {
            int card = Setup.cardIn(x, column, 1, column == 3 ? 1 : 0);
            CHECK.equal("each its own", column, x.columnOf(card));
        }
        x.merge(1);
        for (int card = 0; card <= 3; card++) {
            CHECK.equal("each its own", card == 3 ? 4 : card, x.columnOf(card));
        }
    }

    private static void columnOfNone() {
        CHECK.promise(23, "Throws IndexOutOfBoundsException if there is no such card");
        noSuchCard((x, card) -> x.columnOf(card));
    }

    // ---- promise 24: cardsIn

    private static void cardsInReturns() {
        CHECK.promise(24, "Returns how many cards are in a column.");
        Cardgate x = Setup.withChanges(1);
        for (int column = 1; column <= 3; column++) {
            x.setLimit(column, 9);
        }
        for (int count = 1; count <= 9; count++) {
            Setup.cardIn(x, 3, 1, 0);
            CHECK.equal("up to the highest limit", count, x.cardsIn(3));
        }
        for (int count = 1; count <= 9; count++) {
            x.moveBack(count - 1);
            CHECK.equal("one more", count, x.cardsIn(2));
            CHECK.equal("one less", 9 - count, x.cardsIn(3));
        }
        for (int count = 10; count <= 20; count++) {
            x.card(1);
            CHECK.equal("one more", count - 9, x.cardsIn(0));
        }
        CHECK.equal("none", 0, x.cardsIn(1));
        CHECK.equal("none", 0, x.cardsIn(4));
    }

    private static void cardsInColumn() {
        CHECK.promise(24, "column: 0 to 4");
        Cardgate x = new Cardgate();
        for (int column = 0; column <= 4; column++) {
            CHECK.equal("none", 0, x.cardsIn(column));
        }
        Cardgate y = Setup.queuing(1);
        CHECK.equal("one in 3", 1, y.cardsIn(3));
        y.merge(1);
        CHECK.equal("none in 3", 0, y.cardsIn(3));
        CHECK.equal("one in 4", 1, y.cardsIn(4));
        y.takeOut(0);
        CHECK.equal("one in 1", 1, y.cardsIn(1));
        y.moveBack(0);
        CHECK.equal("one in 0", 1, y.cardsIn(0));
    }

    private static void cardsInNoColumn() {
        CHECK.promise(24, "Throws IndexOutOfBoundsException if there is no such column");
        Cardgate x = Setup.queuing(1);
        for (int column : Setup.beyond(5)) {
            CHECK.outOfBounds("column " + column, x, () -> x.cardsIn(column));
        }
    }

    // ---- promise 25: cardAt

    private static void cardAtReturns() {
        CHECK.promise(25, "Returns a card of a column.");
        Cardgate x = Setup.withCards(5, 5, 5);
        x.move(1);
        CHECK.equal("the only one", 1, x.cardAt(1, 0));
        CHECK.equal("the first of the others", 0, x.cardAt(0, 0));
        CHECK.equal("the last of the others", 2, x.cardAt(0, 1));
    }

    private static void cardAtColumn() {
        CHECK.promise(25, "column: 0 to 4");
        Cardgate x = Setup.withChanges(1, 1);
        int done = Setup.cardIn(x, 3, 1, 0);
        x.merge(1);
        CHECK.equal("in 4", done, x.cardAt(4, 0));
        for (int column = 0; column <= 3; column++) {
            int card = Setup.cardIn(x, column, 1, 1);
            CHECK.equal("in " + column, card, x.cardAt(column, 0));
        }
    }

    private static void cardAtPlace() {
        CHECK.promise(25, "place: 0 for the one that has the highest rank there, of several the one that "
            + "came there first; and so on");
        Cardgate x = Setup.withCards(3, 0, 9, 3, 9);
        CHECK.equal("by ranks, then as they came", "[2 4 0 3 1]", Snapshot.column(x, 0));
        x.move(0);
        x.moveBack(0);
        CHECK.equal("it came again", "[2 4 3 0 1]", Snapshot.column(x, 0));
        for (int card : new int[] {4, 2, 3}) {
            x.move(card);
        }
        CHECK.equal("as they came there", "[4 2 3]", Snapshot.column(x, 1));
        CHECK.equal("those that stay", "[0 1]", Snapshot.column(x, 0));
        Cardgate full = new Cardgate();
        for (int k = 0; k < 20; k++) {
            full.card(k / 2);
        }
        for (int place = 0; place < 20; place++) {
            int due = place % 2 == 0 ? 18 - place : 20 - place;
            CHECK.equal("of 20", due, full.cardAt(0, place));
        }
    }

    private static void cardAtNone() {
        CHECK.promise(25, "Throws IndexOutOfBoundsException if there is no such column or place");
        Cardgate x = Setup.queuing(1);
        x.card(1);
        for (int column : Setup.beyond(5)) {
            CHECK.outOfBounds("column " + column, x, () -> x.cardAt(column, 0));
        }
        for (int column : new int[] {0, 3}) {
            for (int place : Setup.beyond(1)) {
                CHECK.outOfBounds("place " + place, x, () -> x.cardAt(column, place));
            }
        }
        for (int column : new int[] {1, 2, 4}) {
            for (int place : Setup.beyond(0)) {
                CHECK.outOfBounds("none at " + place, x, () -> x.cardAt(column, place));
            }
        }
        Cardgate full = Setup.withCards(Setup.light(20));
        CHECK.outOfBounds("place 20 of 20", full, () -> full.cardAt(0, 20));
    }

    // ---- promise 26: canMove

    private static void canMoveTells() {
        CHECK.promise(26, "Tells whether move() would not throw.");
        Cardgate x = Setup.withChanges(1, 1, 1);
        x.need(2, 1);
        x.card(1);
        CHECK.equal("from 0", true, x.canMove(0));
        x.move(0);
        CHECK.equal("names none", false, x.canMove(0));
        x.name(0, 2, true);
        CHECK.equal("names one", true, x.canMove(0));
        x.move(0);
        CHECK.equal("needs an open one", false, x.canMove(0));
        x.moveBack(0);
        x.name(0, 1, true);
        x.move(0);
        CHECK.equal("names it", true, x.canMove(0));
        x.setBroken(1, true);
        CHECK.equal("broken, but not refused", true, x.canMove(0));
        x.setLimit(3, 1);
        int other = Setup.cardIn(x, 3, 1, 0);
        CHECK.equal("the column 3 is full", false, x.canMove(0));
        CHECK.equal("in 3", false, x.canMove(other));
        x.merge(1);
        CHECK.equal("in 4", false, x.canMove(other));
        CHECK.equal("there is room", true, x.canMove(0));
        x.move(0);
        x.merge(2);
        CHECK.equal("in 1, with refused ones", true, x.canMove(0));
        x.move(0);
        CHECK.equal("in 2, with refused ones", false, x.canMove(0));
        x.mend(1);
        CHECK.equal("one is refused still", false, x.canMove(0));
        x.mend(2);
        CHECK.equal("none is refused", true, x.canMove(0));
        CHECK.equal("nothing moved by that", 2, x.columnOf(0));
        canMoveBesideTheLimits();
    }

    private static void canMoveBesideTheLimits() {
        for (int column = 1; column <= 3; column++) {
            Cardgate x = Setup.withChanges(1);
            x.setLimit(column, 2);
            Setup.cardIn(x, column, 5, 0);
            int next = Setup.cardIn(x, column - 1, 5, 0);
            CHECK.equal("one below the limit", true, x.canMove(next));
            x.setLimit(column, 1);
            CHECK.equal("at the limit", false, x.canMove(next));
            x.setLimit(column, 2);
            x.move(next);
            int last = Setup.cardIn(x, column - 1, 5, 0);
            CHECK.equal("at the limit", false, x.canMove(last));
        }
    }

    private static void canMoveOfNone() {
        CHECK.promise(26, "Throws IndexOutOfBoundsException if there is no such card");
        noSuchCard((x, card) -> x.canMove(card));
    }

    // ---- promise 27: lacks

    private static void lacksReturns() {
        CHECK.promise(27, "Returns how many of the changes that a card names are not IN.");
        Cardgate x = Setup.withChanges(Setup.light(30));
        int card = Setup.cardNaming(x, 1, 0, 1, 2);
        int other = Setup.cardNaming(x, 1);
        CHECK.equal("names none", 0, x.lacks(other));
        CHECK.equal("open ones", 3, x.lacks(card));
        Setup.moveTo(x, card, 3);
        CHECK.equal("queued ones", 3, x.lacks(card));
        x.merge(1);
        CHECK.equal("one is in", 2, x.lacks(card));
        x.setBroken(2, true);
        x.merge(2);
        CHECK.equal("one is refused", 1, x.lacks(card));
        x.name(card, 2, false);
        CHECK.equal("all are in", 0, x.lacks(card));
        for (int change = 0; change < 30; change++) {
            x.name(other, change, true);
        }
        CHECK.equal("all but two", 28, x.lacks(other));
        x.takeOut(0);
        CHECK.equal("one is taken out", 29, x.lacks(other));
        CHECK.equal("one is taken out", 1, x.lacks(card));
    }

    private static void lacksOfNone() {
        CHECK.promise(27, "Throws IndexOutOfBoundsException if there is no such card");
        noSuchCard((x, card) -> x.lacks(card));
    }

    // ---- promises 28 and 29: falls, pushes

    private static void fallsReturns() {
        CHECK.promise(28, "Returns how often a card has fallen.");
        Cardgate x = Setup.queuing(1);
        int other = Setup.cardIn(x, 2, 5, 0);
        CHECK.equal("never", 0, x.falls(0));
        for (int count = 1; count <= 40; count++) {
            if (count % 2 == 0) {
                x.merge(1);
                x.takeOut(0);
            } else {
                x.setBroken(0, true);
                x.merge(1);
                x.mend(0);
            }
            CHECK.equal("one more, refused or taken out", count, x.falls(0));
            Setup.moveTo(x, 0, 3);
        }
        CHECK.equal("the other never", 0, x.falls(other));
        x.moveBack(0);
        x.setLimit(2, 1);
        CHECK.equal("moved or pushed back is not fallen", 40, x.falls(0));
    }

    private static void fallsOfNone() {
        CHECK.promise(28, "Throws IndexOutOfBoundsException if there is no such card");
        noSuchCard((x, card) -> x.falls(card));
    }

    private static void pushesReturns() {
        CHECK.promise(29, "Returns how often, once for each column.");
        Cardgate x = Setup.withChanges(1);
        int low = Setup.cardIn(x, 3, 1, 0);
        for (int column = 3; column >= 1; column--) {
            x.setLimit(column, 1);
        }
        CHECK.equal("never", 0, x.pushes(low));
        Setup.cardIn(x, 2, 9, 0);
        x.setLimit(3, 2);
        Setup.moveTo(x, 1, 3);
        Setup.cardIn(x, 2, 9, 0);
        Setup.cardIn(x, 1, 9, 0);
        x.setLimit(3, 1);
        CHECK.equal("it went through all", 0, x.columnOf(low));
        CHECK.equal("three times at once", 3, x.pushes(low));
        CHECK.equal("it has not fallen", 0, x.falls(low));
        for (int other = 1; other <= 3; other++) {
            CHECK.equal("the others never", 0, x.pushes(other));
        }
        for (int count = 4; count <= 40; count++) {
            x.setLimit(1, 2);
            x.move(low);
            CHECK.equal("moving is no push", count - 1, x.pushes(low));
            x.setLimit(1, 1);
            CHECK.equal("once more", count, x.pushes(low));
        }
        x.setLimit(1, 2);
        x.move(low);
        x.moveBack(low);
        CHECK.equal("moving back is no push", 40, x.pushes(low));
    }

    private static void pushesOfNone() {
        CHECK.promise(29, "Throws IndexOutOfBoundsException if there is no such card");
        noSuchCard((x, card) -> x.pushes(card));
    }

    // ---- promises 30 and 31: state, namedBy

    private static void stateReturns() {
        CHECK.promise(30, "Returns OPEN, QUEUED, IN or REFUSED.");
        Cardgate x = Setup.withChanges(Setup.light(30));
        CHECK.equal("the first", Cardgate.OPEN, x.state(0));
        CHECK.equal("the last", Cardgate.OPEN, x.state(29));
        Setup.cardIn(x, 3, 1, 0, 1, 29);
        CHECK.equal("the first", Cardgate.QUEUED, x.state(0));
        CHECK.equal("the last", Cardgate.QUEUED, x.state(29));
        x.setBroken(29, true);
        x.merge(2);
        CHECK.equal("merged", Cardgate.IN, x.state(1));
        CHECK.equal("not yet", Cardgate.QUEUED, x.state(29));
        x.merge(1);
        CHECK.equal("merged", Cardgate.REFUSED, x.state(29));
        CHECK.equal("another one", Cardgate.OPEN, x.state(28));
    }

    private static void stateOfNone() {
        CHECK.promise(30, "Throws IndexOutOfBoundsException if there is no such change");
        noSuchChange((x, change) -> x.state(change));
    }

    private static void namedByReturns() {
        CHECK.promise(31, "Returns how many cards name a change.");
        Cardgate x = Setup.withChanges(Setup.light(30));
        CHECK.equal("none", 0, x.namedBy(0));
        for (int count = 1; count <= 20; count++) {
            Setup.cardNaming(x, 1, 0, 29);
            CHECK.equal("so many", count, x.namedBy(0));
            CHECK.equal("so many", count, x.namedBy(29));
            CHECK.equal("none", 0, x.namedBy(28));
        }
        for (int card = 0; card < 4; card++) {
            x.setLimit(3, 4);
            Setup.moveTo(x, card, card < 3 ? 3 : 2);
        }
        x.merge(1);
        x.setBroken(29, true);
        CHECK.equal("in whatever columns", 20, x.namedBy(0));
        x.merge(1);
        CHECK.equal("in whatever state", 20, x.namedBy(29));
        x.name(0, 29, false);
        CHECK.equal("one less", 19, x.namedBy(29));
        CHECK.equal("as many as before", 20, x.namedBy(0));
    }

    private static void namedByOfNone() {
        CHECK.promise(31, "Throws IndexOutOfBoundsException if there is no such change");
        noSuchChange((x, change) -> x.namedBy(change));
    }

    // ---- numbers that no card or change has

    private interface Asking {
        void ask(Cardgate x, int number);
    }

    private static void noSuchCard(Asking asking) {
        for (int count : new int[] {0, 1, 19, 20}) {
            Cardgate x = Setup.withCards(Setup.light(count));
            for (int card : Setup.beyond(count)) {
                CHECK.outOfBounds(card + " of " + count, x, () -> asking.ask(x, card));
            }
            for (int card = 0; card < count; card++) {
                asking.ask(x, card);
            }
        }
    }

    private static void noSuchChange(Asking asking) {
        for (int count : new int[] {0, 1, 29, 30}) {
            Cardgate x = Setup.withChanges(Setup.light(count));
            for (int change : Setup.beyond(count)) {
                CHECK.outOfBounds(change + " of " + count, x, () -> asking.ask(x, change));
            }
            for (int change = 0; change < count; change++) {
                asking.ask(x, change);
            }
        }
    }
}
