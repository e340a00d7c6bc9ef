/** Promises 1 to 6, sentence by sentence: a new object, card, name, move, moveBack, setLimit. */
public final class CardsTest {
    private static final Check CHECK = new Check("CardsTest");

    public static void main(String[] args) {
        aNewObject();
        cardAdds();
        cardRank();
        cardReturns();
        cardOutOfRange();
        cardOfTooMany();
        nameLets();
        nameFlag();
        nameReturns();
        nameOfNone();
        nameInTheWrongColumn();
        moveGoesOn();
        moveReturns();
        moveOfNone();
        moveRefuses();
        moveBackGoesBack();
        moveBackReturns();
        moveBackOfNone();
        moveBackRefuses();
        setLimitPushesBack();
        setLimitColumn();
        setLimitLimit();
        setLimitReturns();
        setLimitOfNone();
        setLimitOutOfRange();
        CHECK.end();
    }

    private static void aNewObject() {
        CHECK.promise(1, "No cards and changes.");
        Cardgate x = new Cardgate();
        CHECK.equal("cards", 0, x.cards());
        CHECK.equal("changes", 0, x.changes());
        CHECK.equal("queued", 0, x.queued());
        CHECK.equal("hours", 0, x.hours());
        CHECK.equal("bestLength", Cardgate.NONE, x.bestLength());
        CHECK.outOfBounds("no card", x, () -> x.columnOf(0));
        CHECK.outOfBounds("no change", x, () -> x.state(0));
        CHECK.outOfBounds("no place", x, () -> x.queuedAt(0));
        for (int column = 0; column <= 4; column++) {
            int empty = column;
            CHECK.equal("cardsIn", 0, x.cardsIn(empty));
            CHECK.outOfBounds("cardAt", x, () -> x.cardAt(empty, 0));
        }
        x.card(1);
        x.change(1);
        x.setLimit(1, 9);
        Cardgate another = new Cardgate();
        CHECK.equal("another has cards of its own", 0, another.cards());
        CHECK.equal("and changes", 0, another.changes());
        CHECK.equal("and limits", 3, another.setLimit(1, 9));
    }

    // ---- promise 2: card

    private static void cardAdds() {
        CHECK.promise(2, "Adds a card.");
        Cardgate x = new Cardgate();
        for (int count = 1; count <= 20; count++) {
            x.card(5);
            CHECK.equal("one more", count, x.cards());
            CHECK.equal("it waits", 0, x.columnOf(count - 1));
            CHECK.equal("it waits behind the others", count - 1, x.cardAt(0, count - 1));
        }
        CHECK.equal("it names none", 0, x.lacks(19));
        CHECK.equal("it has not fallen", 0, x.falls(19));
        CHECK.equal("it was not pushed back", 0, x.pushes(19));
    }

    private static void cardRank() {
        CHECK.promise(2, "rank: 0 to 9");
        Cardgate x = new Cardgate();
        for (int rank = 0; rank <= 9; rank++) {
            CHECK.equal("a rank", rank, x.card(rank));
            CHECK.equal("the highest so far", rank, x.cardAt(0, 0));
        }
    }

    private static void cardReturns() {
        CHECK.promise(2, "Returns its number.");
        Cardgate x = new Cardgate();
        for (int number = 0; number < 20; number++) {
            CHECK.equal("number", number, x.card(number % 10));
        }
        CHECK.equal("those are the cards", "[9 19 8 18 7 17 6 16 5 15 4 14 3 13 2 12 1 11 0 10]",
            Snapshot.column(x, 0));
    }

    private static void cardOutOfRange() {
        CHECK.promise(2, "Throws IllegalArgumentException if rank is out of range");
        Cardgate x = Setup.withCards(0, 9);
        for (int rank : new int[] {-1, 10, 11, 256, Integer.MIN_VALUE, Integer.MAX_VALUE}) {
            CHECK.illegalArgument("card " + rank, x, () -> x.card(rank));
        }
        CHECK.equal("the number was not used up", 2, x.card(0));
    }

    private static void cardOfTooMany() {
        CHECK.promise(2, "Throws IllegalStateException if there are 20");
        Cardgate x = Setup.withCards(Setup.light(19));
        CHECK.equal("there are 19", 19, x.card(0));
        for (int rank = 0; rank <= 9; rank++) {
            int extra = rank;
            CHECK.illegalState("there are 20", x, () -> x.card(extra));
        }
    }

    // ---- promise 3: name

    private static void nameLets() {
        CHECK.promise(3, "Lets a card name a change, or not any more.");
        Cardgate x = Setup.withChanges(1, 1);
        Setup.cardNaming(x, 5, 0);
        x.card(5);
        CHECK.equal("it names it", 1, x.namedBy(0));
        CHECK.equal("not the other change", 0, x.namedBy(1));
        x.name(1, 0, true);
        CHECK.equal("two name it", 2, x.namedBy(0));
        x.name(0, 0, false);
        CHECK.equal("one not any more", 1, x.namedBy(0));
        CHECK.equal("the first", 0, x.lacks(0));
        CHECK.equal("the second still", 1, x.lacks(1));
        x.name(1, 0, true);
        CHECK.equal("naming it again is no more", 1, x.namedBy(0));

        Cardgate y = Setup.queuing(1, 1, 1);
        y.setBroken(1, true);
        y.merge(2);
        y.change(1);
        Setup.cardIn(y, 3, 5, 2);
        int card = y.card(5);
        for (int change = 0; change < 4; change++) {
            CHECK.equal("a change of whatever state", change + 1, y.name(card, change, true));
        }
        CHECK.equal("one is in", Cardgate.IN, y.state(0));
        CHECK.equal("one is refused", Cardgate.REFUSED, y.state(1));
        CHECK.equal("one is queued", Cardgate.QUEUED, y.state(2));
        CHECK.equal("one is open", Cardgate.OPEN, y.state(3));
    }

    private static void nameFlag() {
        CHECK.promise(3, "doesName: whether it names it from now on");
        Cardgate x = Setup.withCards(5);
        Setup.addChanges(x, Setup.light(30));
        for (int change : new int[] {0, 15, 29}) {
            x.name(0, change, false);
            CHECK.equal("it does not, as before", 0, x.namedBy(change));
            x.name(0, change, true);
            CHECK.equal("it does", 1, x.namedBy(change));
            x.name(0, change, true);
            CHECK.equal("it does, as before", 1, x.namedBy(change));
            x.name(0, change, false);
            CHECK.equal("it does not any more", 0, x.namedBy(change));
        }
    }

    private static void nameReturns() {
        CHECK.promise(3, "Returns how many changes it names then.");
        Cardgate x = Setup.withCards(1, 1);
        x.change(1);
        CHECK.equal("none, not named anyway", 0, x.name(0, 0, false));
        for (int change = 0; change < 30; change++) {
            if (change > 0) {
                x.change(1);
            }
            CHECK.equal("one more", change + 1, x.name(0, change, true));
        }
        CHECK.equal("named again", 30, x.name(0, 29, true));
        CHECK.equal("of this card alone", 1, x.name(1, 29, true));
        CHECK.equal("one less", 29, x.name(0, 29, false));
        CHECK.equal("not named anyway", 29, x.name(0, 29, false));
        for (int change = 0; change < 29; change++) {
            CHECK.equal("one less", 28 - change, x.name(0, change, false));
        }
    }

    private static void nameOfNone() {
        CHECK.promise(3, "Throws IndexOutOfBoundsException if there is no such card or change");
        Cardgate x = Setup.withChanges(1, 1);
        Setup.cardNaming(x, 1, 0);
        for (int number : Setup.beyond(1)) {
            CHECK.outOfBounds("no card " + number, x, () -> x.name(number, 0, true));
        }
        for (int number : Setup.beyond(2)) {
            CHECK.outOfBounds("no change " + number, x, () -> x.name(0, number, true));
            CHECK.outOfBounds("no change " + number, x, () -> x.name(0, number, false));
        }
        Cardgate full = Setup.withChanges(Setup.light(30));
        for (int k = 0; k < 20; k++) {
            full.card(5);
        }
        for (int number : Setup.beyond(30)) {
            CHECK.outOfBounds("no change " + number, full, () -> full.name(19, number, true));
        }
        for (int number : Setup.beyond(20)) {
            CHECK.outOfBounds("no card " + number, full, () -> full.name(number, 29, true));
        }
        CHECK.equal("the last ones", 1, full.name(19, 29, true));
    }

    private static void nameInTheWrongColumn() {
        CHECK.promise(3, "Throws IllegalStateException if it is neither in the column 0 nor in the "
            + "column 1");
        Cardgate x = Setup.withChanges(1, 1);
        int card = Setup.cardNaming(x, 1, 0);
        CHECK.equal("in the column 0", 2, x.name(card, 1, true));
        x.move(card);
        CHECK.equal("in the column 1", 1, x.name(card, 1, false));
        for (int column = 2; column <= 4; column++) {
            if (column < 4) {
                x.move(card);
            } else {
                x.merge(1);
            }
            CHECK.equal("it is there", column, x.columnOf(card));
            CHECK.illegalState("another one", x, () -> x.name(card, 1, true));
            CHECK.illegalState("the same", x, () -> x.name(card, 0, true));
            CHECK.illegalState("not any more", x, () -> x.name(card, 0, false));
            CHECK.illegalState("not named anyway", x, () -> x.name(card, 1, false));
        }
        x.takeOut(0);
        CHECK.equal("in the column 1 again", 2, x.name(card, 1, true));
    }

    // ---- promise 4: move

    private static void moveGoesOn() {
        CHECK.promise(4, "Moves a card to the next column, from 0, 1 or 2.");
        Cardgate x = Setup.withChanges(1);
        int card = Setup.cardNaming(x, 1, 0);
        int other = Setup.cardNaming(x, 1, 0);
        for (int column = 1; column <= 3; column++) {
            x.move(card);
            CHECK.equal("the next one", column, x.columnOf(card));
            CHECK.equal("the other stays", 0, x.columnOf(other));
        }
        CHECK.equal("not pushed", 0, x.pushes(card));
        CHECK.equal("not fallen", 0, x.falls(card));
    }

    private static void moveReturns() {
        CHECK.promise(4, "Returns the column where it is then.");
        Cardgate x = Setup.queuing(1);
        x.merge(1);
        int done = Setup.cardNaming(x, 1, 0);
        CHECK.equal("to 1", 1, x.move(done));
        CHECK.equal("to 2", 2, x.move(done));
        CHECK.equal("to 3, and on to 4 at once", 4, x.move(done));
        x.change(1);
        int merging = Setup.cardIn(x, 2, 1, 0, 1);
        CHECK.equal("to 3", 3, x.move(merging));
    }

    private static void moveOfNone() {
        CHECK.promise(4, "Throws IndexOutOfBoundsException if there is no such card");
        Cardgate x = Setup.withCards(1, 1);
        for (int card : Setup.beyond(2)) {
            CHECK.outOfBounds("no card " + card, x, () -> x.move(card));
        }
        Cardgate none = new Cardgate();
        CHECK.outOfBounds("none at all", none, () -> none.move(0));
        Cardgate full = Setup.withCards(Setup.light(20));
        CHECK.outOfBounds("there are 20", full, () -> full.move(20));
        CHECK.equal("the last one", 1, full.move(19));
    }

    private static void moveRefuses() {
        CHECK.promise(4, "Throws IllegalStateException if it is in the column 3 or 4; the next column "
            + "has as many cards as its limit; it is in the column 1 and names no change; or it is "
            + "in the column 2, and one of its changes is REFUSED, or needs one that is OPEN or "
            + "REFUSED and that the card does not name");
        moveFromTheLastColumns();
        moveToAFullColumn();
        moveToMergingIfFull();
        moveNamingNone();
        moveNamingRefused();
        moveNeedingOpen();
        moveNeedingRefused();
        moveNeedingItsOwn();
    }

    private static void moveFromTheLastColumns() {
        Cardgate x = Setup.queuing(1);
        CHECK.illegalState("from 3", x, () -> x.move(0));
        x.merge(1);
        CHECK.illegalState("from 4", x, () -> x.move(0));
    }

    private static void moveToAFullColumn() {
        Cardgate x = Setup.withChanges(1);
        for (int column = 3; column >= 1; column--) {
            for (int k = 0; k < 3; k++) {
                Setup.cardIn(x, column, 1, 0);
            }
        }
        int waiting = Setup.cardNaming(x, 9, 0);
        for (int k = 0; k < 2; k++) {
            Setup.cardNaming(x, 1, 0);
        }
        CHECK.illegalState("to a full column 1", x, () -> x.move(waiting));
        CHECK.illegalState("to a full column 2", x, () -> x.move(6));
        CHECK.illegalState("to a full column 3", x, () -> x.move(3));
        x.setLimit(3, 4);
        CHECK.equal("one below the limit of 3", 3, x.move(3));
        CHECK.equal("one below the limit of 2", 2, x.move(6));
        CHECK.equal("one below the limit of 1", 1, x.move(waiting));
        CHECK.illegalState("to 3, at the limit 4", x, () -> x.move(4));
        for (int column = 1; column <= 3; column++) {
            x.setLimit(column, 1);
        }
        CHECK.illegalState("at the lowest limit", x, () -> x.move(x.cardAt(2, 0)));
        x.setLimit(3, 9);
        for (int k = 2; k <= 9; k++) {
            x.move(x.cardAt(2, 0));
            x.move(x.cardAt(1, 0));
            x.move(x.cardAt(0, 0));
            CHECK.equal("below the highest limit", k, x.cardsIn(3));
        }
        CHECK.illegalState("at the highest limit", x, () -> x.move(x.cardAt(2, 0)));
    }

    private static void moveToMergingIfFull() {
        Cardgate x = Setup.withChanges(1, 1);
        Setup.cardIn(x, 3, 5, 0);
        x.merge(1);
        x.setLimit(3, 1);
        int first = Setup.cardIn(x, 2, 5, 0);
        int second = Setup.cardIn(x, 2, 5, 0);
        int third = Setup.cardIn(x, 2, 5, 1);
        x.move(third);
        CHECK.illegalState("the column 3 is on the way to 4", x, () -> x.move(first));
        x.moveBack(third);
        CHECK.equal("it has room", 4, x.move(first));
        CHECK.equal("and has it still", 4, x.move(second));
    }

    private static void moveNamingNone() {
        Cardgate x = Setup.withChanges(1);
        x.card(1);
        CHECK.equal("names none, to 1", 1, x.move(0));
        CHECK.illegalState("names none, to 2", x, () -> x.move(0));
        x.name(0, 0, true);
        x.name(0, 0, false);
        CHECK.illegalState("names none any more", x, () -> x.move(0));
        x.name(0, 0, true);
        CHECK.equal("names one", 2, x.move(0));
    }

    private static void moveNamingRefused() {
        Cardgate x = Setup.withChanges(1, 1);
        int card = Setup.cardIn(x, 3, 5, 0, 1);
        x.setBroken(1, true);
        CHECK.equal("tries", 3, x.merge(2));
        CHECK.equal("to 2 with a refused one", 2, x.move(card));
        CHECK.illegalState("one of its changes is refused", x, () -> x.move(card));
        x.mend(1);
        x.setBroken(1, true);
        CHECK.equal("broken is not refused", 3, x.move(card));
    }

    private static void moveNeedingOpen() {
        Cardgate x = Setup.withChanges(1, 1, 1, 1);
        x.need(2, 0);
        x.need(2, 1);
        int second = Setup.cardIn(x, 2, 1, 1);
        int needing = Setup.cardIn(x, 2, 1, 2, 3);
        int first = Setup.cardIn(x, 2, 1, 0);
        CHECK.illegalState("both are open", x, () -> x.move(needing));
        x.move(first);
        CHECK.illegalState("one is queued, one is open", x, () -> x.move(needing));
        x.move(second);
        CHECK.equal("both are queued", 3, x.move(needing));
        x.moveBack(needing);
        x.merge(2);
        CHECK.equal("both are in", 3, x.move(needing));
        x.moveBack(needing);
        x.takeOut(1);
        CHECK.illegalState("one is taken out", x, () -> x.move(needing));

        Cardgate y = Setup.withChanges(1, 1, 1);
        y.need(1, 0);
        y.need(2, 1);
        int lowest = Setup.cardIn(y, 3, 1, 0);
        Setup.cardIn(y, 3, 1, 1);
        y.moveBack(lowest);
        int highest = Setup.cardIn(y, 2, 1, 2);
        CHECK.equal("the queue", "[1]", Snapshot.queue(y));
        CHECK.equal("what the needed one needs may be open", 3, y.move(highest));
    }

    private static void moveNeedingRefused() {
        Cardgate x = Setup.withChanges(1, 1);
        x.need(1, 0);
        int first = Setup.cardIn(x, 3, 1, 0);
        int needing = Setup.cardIn(x, 2, 1, 1);
        x.setBroken(0, true);
        x.merge(1);
        CHECK.illegalState("needs a refused one", x, () -> x.move(needing));
        x.mend(0);
        CHECK.illegalState("needs a mended one, which is open", x, () -> x.move(needing));
        Setup.moveTo(x, first, 3);
        CHECK.equal("needs a queued one", 3, x.move(needing));
    }

    private static void moveNeedingItsOwn() {
        Cardgate x = Setup.withChanges(1, 1, 1);
        x.need(1, 0);
        x.need(2, 1);
        int some = Setup.cardIn(x, 2, 1, 1, 2);
        int all = Setup.cardIn(x, 2, 1, 0, 1, 2);
        CHECK.illegalState("it names one of both, not the other", x, () -> x.move(some));
        CHECK.equal("it names both", 3, x.move(all));
        x.moveBack(all);
        x.moveBack(all);
        x.name(all, 0, false);
        x.name(all, 1, false);
        x.move(all);
        CHECK.illegalState("another card alone names it", x, () -> x.move(all));
    }

    // ---- promise 5: moveBack

    private static void moveBackGoesBack() {
        CHECK.promise(5, "Moves a card to the column ahead of its own, from 1, 2 or 3.");
        Cardgate x = Setup.queuing(1);
        int other = Setup.cardIn(x, 3, 5, 0);
        for (int column = 2; column >= 0; column--) {
            x.moveBack(0);
            CHECK.equal("the one ahead", column, x.columnOf(0));
            CHECK.equal("the other stays", 3, x.columnOf(other));
        }
        CHECK.equal("not pushed", 0, x.pushes(0));
        CHECK.equal("not fallen", 0, x.falls(0));
    }

    private static void moveBackReturns() {
        CHECK.promise(5, "Returns the column where it is then.");
        Cardgate x = Setup.queuing(1);
        CHECK.equal("from 3", 2, x.moveBack(0));
        CHECK.equal("from 2", 1, x.moveBack(0));
        CHECK.equal("from 1", 0, x.moveBack(0));
    }

    private static void moveBackOfNone() {
        CHECK.promise(5, "Throws IndexOutOfBoundsException if there is no such card");
        Cardgate x = Setup.queuing(1);
        for (int card : Setup.beyond(1)) {
            CHECK.outOfBounds("no card " + card, x, () -> x.moveBack(card));
        }
        Cardgate full = Setup.withCards(Setup.light(20));
        CHECK.outOfBounds("there are 20", full, () -> full.moveBack(20));
    }

    private static void moveBackRefuses() {
        CHECK.promise(5, "Throws IllegalStateException if it is in the column 0 or 4, or the column "
            + "ahead has a limit and as many cards as that");
        Cardgate x = Setup.withChanges(1);
        int card = Setup.cardNaming(x, 1, 0);
        CHECK.illegalState("from 0", x, () -> x.moveBack(card));
        Setup.moveTo(x, card, 3);
        for (int k = 0; k < 3; k++) {
            Setup.cardIn(x, 2, 1, 0);
        }
        CHECK.illegalState("to a full column 2", x, () -> x.moveBack(card));
        for (int k = 0; k < 3; k++) {
            Setup.cardIn(x, 1, 1, 0);
        }
        CHECK.illegalState("to a full column 1", x, () -> x.moveBack(1));
        for (int k = 0; k < 13; k++) {
            x.card(9);
        }
        CHECK.equal("the column 0 has no limit", 0, x.moveBack(4));
        CHECK.equal("1 is one below its limit", 1, x.moveBack(1));
        CHECK.illegalState("1 is at its limit again", x, () -> x.moveBack(2));
        CHECK.equal("2 is one below its limit", 2, x.moveBack(card));
        x.move(card);
        x.setLimit(2, 9);
        CHECK.equal("the limit is higher", 2, x.moveBack(card));
        x.move(card);
        x.merge(1);
        CHECK.equal("done", 4, x.columnOf(card));
        CHECK.illegalState("from 4", x, () -> x.moveBack(card));
    }

    // ---- promise 6: setLimit

    private static void setLimitPushesBack() {
        CHECK.promise(6, "Sets the limit of a column; as long as there are more cards in it, it is "
            + "pushed back there.");
        Cardgate x = Setup.withCards(4, 2, 7, 2, 2);
        x.setLimit(1, 9);
        for (int card : new int[] {3, 0, 4, 2, 1}) {
            x.move(card);
        }
        CHECK.equal("in order", "[2 0 3 4 1]", Snapshot.column(x, 1));
        x.setLimit(1, 6);
        CHECK.equal("one below the limit none goes", 5, x.cardsIn(1));
        x.setLimit(1, 5);
        CHECK.equal("at the limit none goes", 5, x.cardsIn(1));
        x.setLimit(1, 2);
        CHECK.equal("the highest ranks stay", "[2 0]", Snapshot.column(x, 1));
        CHECK.equal("the latest went first", "[1 4 3]", Snapshot.column(x, 0));
        for (int card = 0; card < 5; card++) {
            CHECK.equal("pushes", card == 0 || card == 2 ? 0 : 1, x.pushes(card));
            CHECK.equal("falls", 0, x.falls(card));
        }
        x.setLimit(1, 9);
        CHECK.equal("none comes back", 2, x.cardsIn(1));
        setLimitPushesFromEach();
    }

    private static void setLimitPushesFromEach() {
        for (int column = 1; column <= 3; column++) {
            Cardgate x = Setup.withChanges(1);
            for (int each = 1; each <= 3; each++) {
                x.setLimit(each, 9);
            }
            for (int k = 0; k < 9; k++) {
                Setup.cardIn(x, column, 5, 0);
            }
            for (int each = 1; each <= 3; each++) {
                if (each != column) {
                    x.setLimit(each, 1);
                    CHECK.equal("of this column alone", 9, x.cardsIn(column));
                }
            }
            x.setLimit(column, 1);
            CHECK.equal("from 9 to 1", "[0]", Snapshot.column(x, column));
            for (int ahead = column - 1; ahead >= 1; ahead--) {
                CHECK.equal("the columns ahead keep to their limits", 1, x.cardsIn(ahead));
            }
            CHECK.equal("the others wait", 9 - column, x.cardsIn(0));
            for (int card = 1; card < 9; card++) {
                CHECK.equal("once for each column", column - x.columnOf(card), x.pushes(card));
            }
        }
    }

    private static void setLimitColumn() {
        CHECK.promise(6, "column: 1 to 3");
        Cardgate x = new Cardgate();
        for (int column = 1; column <= 3; column++) {
            CHECK.equal("each has its own", 3, x.setLimit(column, 3 + column));
        }
        for (int column = 1; column <= 3; column++) {
            CHECK.equal("each has its own", 3 + column, x.setLimit(column, 1));
        }
    }

    private static void setLimitLimit() {
        CHECK.promise(6, "limit: 1 to 9");
        for (int limit = 1; limit <= 9; limit++) {
            Cardgate x = Setup.withCards(Setup.light(10));
            x.setLimit(1, limit);
            for (int card = 0; card < limit; card++) {
                x.move(card);
            }
            CHECK.equal("so many may be there", limit, x.cardsIn(1));
            int next = limit;
            CHECK.illegalState("and no more", x, () -> x.move(next));
            CHECK.equal("it is the limit", limit, x.setLimit(1, 1));
        }
    }

    private static void setLimitReturns() {
        CHECK.promise(6, "Returns the limit before.");
        for (int column = 1; column <= 3; column++) {
            Cardgate x = new Cardgate();
            int before = 3;
            for (int limit : new int[] {3, 9, 9, 1, 1, 5}) {
                CHECK.equal("before", before, x.setLimit(column, limit));
                before = limit;
            }
        }
    }

    private static void setLimitOfNone() {
        CHECK.promise(6, "Throws IndexOutOfBoundsException if column is not 1 to 3");
        Cardgate x = Setup.withCards(1, 2, 3);
        for (int column : new int[] {0, 4, -1, 5, 33, Integer.MIN_VALUE, Integer.MAX_VALUE}) {
            CHECK.outOfBounds("column " + column, x, () -> x.setLimit(column, 1));
        }
    }

    private static void setLimitOutOfRange() {
        CHECK.promise(6, "Throws IllegalArgumentException if limit is out of range");
        Cardgate x = Setup.withCards(1, 2, 3);
        for (int card = 0; card < 3; card++) {
            x.move(card);
        }
        for (int column = 1; column <= 3; column++) {
            int each = column;
            for (int limit : new int[] {0, 10, -1, 11, Integer.MIN_VALUE, Integer.MAX_VALUE}) {
                CHECK.illegalArgument("limit " + limit, x, () -> x.setLimit(each, limit));
            }
            CHECK.equal("it stayed", 3, x.setLimit(column, 3));
        }
    }
}
