/** Promises 7 to 12, sentence by sentence: change, need, setBroken, setClash, mend, takeOut. */
public final class ChangesTest {
    private static final Check CHECK = new Check("ChangesTest");

    public static void main(String[] args) {
        changeAdds();
        changeWeight();
        changeReturns();
        changeOutOfRange();
        changeOfTooMany();
        needLets();
        needReturns();
        needOfNone();
        needOfNoLower();
        needRefuses();
        setBrokenTells();
        setBrokenFlag();
        setBrokenReturns();
        setBrokenOfNone();
        setBrokenRefuses();
        setClashTells();
        setClashFlag();
        setClashReturns();
        setClashOfNone();
        setClashOfTheSame();
        setClashRefuses();
        mendOpens();
        mendReturns();
        mendOfNone();
        mendRefuses();
        takeOutOpens();
        takeOutLetsFall();
        takeOutReturns();
        takeOutOfNone();
        takeOutRefuses();
        CHECK.end();
    }

    // ---- promise 7: change

    private static void changeAdds() {
        CHECK.promise(7, "Adds a change.");
        Cardgate x = new Cardgate();
        for (int count = 1; count <= 30; count++) {
            x.change(9);
            CHECK.equal("one more", count, x.changes());
            CHECK.equal("it is open", Cardgate.OPEN, x.state(count - 1));
            CHECK.equal("no card names it", 0, x.namedBy(count - 1));
        }
        CHECK.equal("none is queued by that", 0, x.queued());
    }

    private static void changeWeight() {
        CHECK.promise(7, "weight: 1 to 9");
        for (int weight = 1; weight <= 9; weight++) {
            Cardgate x = new Cardgate();
            CHECK.equal("a weight", 0, x.change(weight));
            Setup.cardIn(x, 3, 5, 0);
            CHECK.equal("its hours", 5 + weight, x.wouldTake(1, true));
        }
    }

    private static void changeReturns() {
        CHECK.promise(7, "Returns its number.");
        Cardgate x = new Cardgate();
        for (int number = 0; number < 30; number++) {
            CHECK.equal("number", number, x.change(number % 9 + 1));
        }
    }

    private static void changeOutOfRange() {
        CHECK.promise(7, "Throws IllegalArgumentException if weight is out of range");
        Cardgate x = Setup.withChanges(1, 9);
        for (int weight : new int[] {0, 10, -1, 11, Integer.MIN_VALUE, Integer.MAX_VALUE}) {
            CHECK.illegalArgument("change " + weight, x, () -> x.change(weight));
        }
        CHECK.equal("the number was not used up", 2, x.change(1));
    }

    private static void changeOfTooMany() {
        CHECK.promise(7, "Throws IllegalStateException if there are 30");
        Cardgate x = Setup.withChanges(Setup.light(29));
        CHECK.equal("there are 29", 29, x.change(9));
        for (int weight = 1; weight <= 9; weight++) {
            int extra = weight;
            CHECK.illegalState("there are 30", x, () -> x.change(extra));
        }
    }

    // ---- promise 8: need

    private static void needLets() {
        CHECK.promise(8, "Lets a change need another one.");
        Cardgate x = Setup.queuing(1, 1);
        CHECK.equal("it needs none", 3, x.wouldPass(2));
        x.setBroken(0, true);
        CHECK.equal("it needs none", 2, x.wouldPass(2));
        x.moveBack(0);
        x.need(1, 0);
        x.move(0);
        CHECK.equal("it needs the broken one", 0, x.wouldPass(2));
        x.setBroken(0, false);
        CHECK.equal("it needs one that holds", 3, x.wouldPass(2));
        x.setBroken(1, true);
        CHECK.equal("the needed one does not need it", 1, x.wouldPass(2));
    }

    private static void needReturns() {
        CHECK.promise(8, "Returns how many it needs then.");
        Cardgate x = Setup.withChanges(Setup.light(30));
        CHECK.equal("one", 1, x.need(3, 0));
        CHECK.equal("two", 2, x.need(3, 2));
        CHECK.equal("of this change alone", 1, x.need(2, 0));
        CHECK.equal("three", 3, x.need(3, 1));
        CHECK.equal("the lowest that can", 1, x.need(1, 0));
        for (int other = 0; other < 29; other++) {
            CHECK.equal("the most", other + 1, x.need(29, other));
        }
    }

    private static void needOfNone() {
        CHECK.promise(8, "Throws IndexOutOfBoundsException if there is no such change");
        Cardgate x = Setup.withChanges(1, 1, 1);
        for (int number : Setup.beyond(3)) {
            CHECK.outOfBounds("the change " + number, x, () -> x.need(number, 0));
            CHECK.outOfBounds("the other " + number, x, () -> x.need(2, number));
            CHECK.outOfBounds("both " + number, x, () -> x.need(number, number));
        }
        Cardgate full = Setup.withChanges(Setup.light(30));
        for (int number : Setup.beyond(30)) {
            CHECK.outOfBounds("the change " + number, full, () -> full.need(number, 29));
            CHECK.outOfBounds("the other " + number, full, () -> full.need(29, number));
        }
        Cardgate none = new Cardgate();
        CHECK.outOfBounds("none at all", none, () -> none.need(0, 0));
    }

    private static void needOfNoLower() {
        CHECK.promise(8, "Throws IllegalArgumentException if other is not lower than change");
        Cardgate x = Setup.withChanges(Setup.light(30));
        for (int change = 0; change < 30; change++) {
            int same = change;
            CHECK.illegalArgument("the same", x, () -> x.need(same, same));
            if (change < 29) {
                CHECK.illegalArgument("the next", x, () -> x.need(same, same + 1));
                CHECK.illegalArgument("the highest", x, () -> x.need(same, 29));
                CHECK.equal("the one below", 1, x.need(same + 1, same));
            }
        }
    }

    private static void needRefuses() {
        CHECK.promise(8, "Throws IllegalStateException if change is not OPEN, or needs other already");
        Cardgate x = Setup.withChanges(1, 1, 1);
        x.need(1, 0);
        CHECK.illegalState("needs it already", x, () -> x.need(1, 0));
        int card = Setup.cardIn(x, 3, 1, 2);
        CHECK.illegalState("queued", x, () -> x.need(2, 0));
        x.merge(1);
        CHECK.illegalState("in", x, () -> x.need(2, 0));
        x.takeOut(2);
        CHECK.equal("open again", 1, x.need(2, 1));
        CHECK.equal("open still", 2, x.need(2, 0));
        CHECK.illegalState("needs it already", x, () -> x.need(2, 1));
        x.name(card, 0, true);
        x.name(card, 1, true);
        Setup.moveTo(x, card, 3);
        Setup.addChanges(x, 1, 1);
        CHECK.equal("the other may be queued", 1, x.need(4, 1));
        x.setBroken(2, true);
        x.merge(3);
        CHECK.equal("the other may be in", 2, x.need(4, 0));
        CHECK.equal("the other may be refused", 3, x.need(4, 2));
        CHECK.illegalState("refused, needs it already", x, () -> x.need(2, 0));
        int single = Setup.cardIn(x, 3, 1, 3);
        x.setBroken(3, true);
        x.merge(1);
        for (int other = 0; other < 3; other++) {
            int lower = other;
            CHECK.illegalState("refused, needs none", x, () -> x.need(3, lower));
        }
        CHECK.equal("it fell", 1, x.falls(single));
        x.mend(3);
        CHECK.equal("mended, needs none still", 1, x.need(3, 0));
        x.mend(2);
        CHECK.illegalState("mended, needs it still", x, () -> x.need(2, 0));
    }

    // ---- promise 9: setBroken

    private static void setBrokenTells() {
        CHECK.promise(9, "Tells whether a change is broken, from now on.");
        Cardgate x = Setup.queuing(1, 1);
        x.setBroken(0, true);
        CHECK.equal("the queued one does not hold", 2, x.wouldPass(2));
        x.moveBack(0);
        x.setBroken(1, true);
        x.move(0);
        CHECK.equal("nor the one that was open", 0, x.wouldPass(2));
        x.setBroken(0, false);
        CHECK.equal("it holds again", 1, x.wouldPass(2));
        x.merge(2);
        x.setBroken(1, false);
        CHECK.equal("a refused one stays so", Cardgate.REFUSED, x.state(1));
        CHECK.equal("and its card where it fell", 1, x.columnOf(0));
    }

    private static void setBrokenFlag() {
        CHECK.promise(9, "isBroken: whether it is");
        Cardgate x = Setup.withChanges(Setup.light(30));
        for (int change : new int[] {0, 15, 29}) {
            x.setBroken(change, true);
            x.setBroken(change, true);
            CHECK.equal("told twice it is", true, x.setBroken(change, false));
            x.setBroken(change, false);
            CHECK.equal("told twice it is not", false, x.setBroken(change, false));
        }
    }

    private static void setBrokenReturns() {
        CHECK.promise(9, "Returns whether it was.");
        Cardgate x = Setup.withChanges(Setup.light(30));
        for (int change = 0; change < 30; change++) {
            CHECK.equal("it was not", false, x.setBroken(change, change % 2 == 0));
        }
        for (int change = 0; change < 30; change++) {
            CHECK.equal("every other one was", change % 2 == 0, x.setBroken(change, true));
        }
        Cardgate y = Setup.queuing(1);
        CHECK.equal("queued, it was not", false, y.setBroken(0, true));
        y.merge(1);
        CHECK.equal("refused, it was", true, y.setBroken(0, false));
        CHECK.equal("refused, it was not", false, y.setBroken(0, true));
    }

    private static void setBrokenOfNone() {
        CHECK.promise(9, "Throws IndexOutOfBoundsException if there is no such change");
        Cardgate x = Setup.queuing(1);
        for (int change : Setup.beyond(1)) {
            CHECK.outOfBounds("true " + change, x, () -> x.setBroken(change, true));
            CHECK.outOfBounds("false " + change, x, () -> x.setBroken(change, false));
        }
        Cardgate full = Setup.withChanges(Setup.light(30));
        CHECK.outOfBounds("there are 30", full, () -> full.setBroken(30, true));
    }

    private static void setBrokenRefuses() {
        CHECK.promise(9, "Throws IllegalStateException if it is IN");
        Cardgate x = Setup.queuing(1);
        x.merge(1);
        CHECK.illegalState("in", x, () -> x.setBroken(0, true));
        CHECK.illegalState("in, and not broken anyway", x, () -> x.setBroken(0, false));
        x.takeOut(0);
        CHECK.equal("taken out", false, x.setBroken(0, true));
    }

    // ---- promise 10: setClash

    private static void setClashTells() {
        CHECK.promise(10, "Tells whether two changes clash, from now on.");
        Cardgate x = Setup.queuing(1, 1, 1);
        x.setClash(0, 1, true);
        CHECK.equal("the first of both holds", 5, x.wouldPass(3));
        x.setClash(0, 1, false);
        CHECK.equal("both hold again", 7, x.wouldPass(3));
        x.setClash(2, 0, true);
        CHECK.equal("the first of both holds", 3, x.wouldPass(3));
        x.merge(1);
        CHECK.equal("one of both is in", 1, x.wouldPass(2));
        x.setClash(0, 1, true);
        CHECK.equal("told when one is in", 0, x.wouldPass(2));
        x.takeOut(0);
        Setup.moveTo(x, 0, 3);
        CHECK.equal("they clash still", "[0 1 2]", Snapshot.queue(x));
        CHECK.equal("they clash still", 1, x.wouldPass(3));
    }

    private static void setClashFlag() {
        CHECK.promise(10, "doClash: whether they do");
        Cardgate x = Setup.withChanges(Setup.light(30));
        x.setClash(29, 0, true);
        x.setClash(29, 0, true);
        CHECK.equal("told twice they do", true, x.setClash(29, 0, false));
        x.setClash(29, 0, false);
        CHECK.equal("told twice they do not", false, x.setClash(29, 0, false));
    }

    private static void setClashReturns() {
        CHECK.promise(10, "Returns whether they did.");
        Cardgate x = Setup.withChanges(Setup.light(30));
        for (int change = 0; change < 29; change++) {
            CHECK.equal("they did not", false, x.setClash(change, change + 1, true));
            CHECK.equal("they did, the other way round", true, x.setClash(change + 1, change, true));
        }
        for (int change = 0; change < 28; change++) {
            CHECK.equal("another pair", false, x.setClash(change, change + 2, false));
        }
        for (int change = 0; change < 29; change++) {
            CHECK.equal("they did", true, x.setClash(change + 1, change, false));
            CHECK.equal("not any more", false, x.setClash(change, change + 1, false));
        }
    }

    private static void setClashOfNone() {
        CHECK.promise(10, "Throws IndexOutOfBoundsException if there is no such change");
        Cardgate x = Setup.queuing(1, 1, 1);
        for (int number : Setup.beyond(3)) {
            CHECK.outOfBounds("the change " + number, x, () -> x.setClash(number, 0, true));
            CHECK.outOfBounds("the other " + number, x, () -> x.setClash(0, number, true));
            CHECK.outOfBounds("both " + number, x, () -> x.setClash(number, number, false));
        }
        Cardgate full = Setup.withChanges(Setup.light(30));
        CHECK.outOfBounds("there are 30", full, () -> full.setClash(30, 0, true));
        CHECK.outOfBounds("there are 30", full, () -> full.setClash(29, 30, true));
    }

    private static void setClashOfTheSame() {
        CHECK.promise(10, "Throws IllegalArgumentException if both are the same");
        Cardgate x = Setup.queuing(1, 1);
        CHECK.illegalArgument("the same", x, () -> x.setClash(1, 1, true));
        CHECK.illegalArgument("the same", x, () -> x.setClash(0, 0, false));
        x.merge(1);
        CHECK.illegalArgument("the same, in", x, () -> x.setClash(0, 0, true));
    }

    private static void setClashRefuses() {
        CHECK.promise(10, "Throws IllegalStateException if both are IN");
        Cardgate x = Setup.queuing(1, 1, 1);
        x.merge(2);
        CHECK.illegalState("both are in", x, () -> x.setClash(0, 1, true));
        CHECK.illegalState("both are in", x, () -> x.setClash(1, 0, false));
        CHECK.equal("the first alone is in", false, x.setClash(0, 2, true));
        CHECK.equal("the second alone is in", true, x.setClash(2, 0, false));
        x.takeOut(1);
        CHECK.equal("one is taken out", false, x.setClash(0, 1, true));
        CHECK.equal("none of both is in", false, x.setClash(1, 2, true));
    }

    // ---- promise 11: mend

    private static void mendOpens() {
        CHECK.promise(11, "Mends a change that was refused: it is OPEN, and not broken.");
        Cardgate x = Setup.queuing(1, 1);
        x.setBroken(0, true);
        x.merge(1);
        x.mend(0);
        CHECK.equal("open", Cardgate.OPEN, x.state(0));
        CHECK.equal("not queued", "[]", Snapshot.queue(x));
        CHECK.equal("its card does not move by that", 1, x.columnOf(0));
        CHECK.equal("not broken", false, x.setBroken(0, false));
        Setup.moveTo(x, 0, 3);
        CHECK.equal("holds now", 3, x.wouldPass(2));

        Cardgate y = Setup.queuing(1, 1);
        y.setBroken(0, true);
        y.setBroken(1, true);
        y.merge(2);
        y.mend(1);
        CHECK.equal("the other is refused still", Cardgate.REFUSED, y.state(0));
        CHECK.equal("and broken still", true, y.setBroken(0, true));

        Cardgate z = Setup.queuing(1, 1);
        z.setClash(0, 1, true);
        z.merge(2);
        z.mend(1);
        Setup.moveTo(z, 0, 3);
        CHECK.equal("it clashes still", 0, z.wouldPass(1));
    }

    private static void mendReturns() {
        CHECK.promise(11, "Returns how many cards name it.");
        Cardgate x = Setup.queuing(1);
        for (int count = 1; count <= 20; count++) {
            x.setBroken(0, true);
            x.merge(1);
            CHECK.equal("so many", count, x.mend(0));
            Setup.moveTo(x, 0, 3);
            if (count < 20) {
                Setup.cardNaming(x, 1, 0);
            }
        }
        x.setBroken(0, true);
        x.merge(1);
        for (int card = 0; card < 20; card++) {
            x.name(card, 0, false);
        }
        CHECK.equal("none any more", 0, x.mend(0));
    }

    private static void mendOfNone() {
        CHECK.promise(11, "Throws IndexOutOfBoundsException if there is no such change");
        Cardgate x = Setup.queuing(1);
        x.setBroken(0, true);
        x.merge(1);
        for (int change : Setup.beyond(1)) {
            CHECK.outOfBounds("no change " + change, x, () -> x.mend(change));
        }
        Cardgate full = Setup.withChanges(Setup.light(30));
        CHECK.outOfBounds("there are 30", full, () -> full.mend(30));
    }

    private static void mendRefuses() {
        CHECK.promise(11, "Throws IllegalStateException if it is not REFUSED");
        Cardgate x = Setup.withChanges(1);
        int card = Setup.cardNaming(x, 1, 0);
        CHECK.illegalState("open", x, () -> x.mend(0));
        x.setBroken(0, true);
        CHECK.illegalState("open and broken", x, () -> x.mend(0));
        CHECK.equal("broken still", true, x.setBroken(0, true));
        Setup.moveTo(x, card, 3);
        CHECK.illegalState("queued and broken", x, () -> x.mend(0));
        x.merge(1);
        x.mend(0);
        CHECK.illegalState("mended", x, () -> x.mend(0));
        Setup.moveTo(x, card, 3);
        x.merge(1);
        CHECK.illegalState("in", x, () -> x.mend(0));
    }

    // ---- promise 12: takeOut

    private static void takeOutOpens() {
        CHECK.promise(12, "Takes a change out again: it is OPEN;");
        Cardgate x = Setup.queuing(1, 1);
        x.merge(2);
        x.takeOut(0);
        CHECK.equal("open", Cardgate.OPEN, x.state(0));
        CHECK.equal("the other is in still", Cardgate.IN, x.state(1));
        CHECK.equal("not queued", "[]", Snapshot.queue(x));
        CHECK.equal("its card lacks it", 1, x.lacks(0));
        Setup.moveTo(x, 0, 3);
        CHECK.equal("queued anew", "[0]", Snapshot.queue(x));
        CHECK.equal("no hours are taken back", 7, x.hours());
        x.merge(1);
        CHECK.equal("in again", Cardgate.IN, x.state(0));
    }

    private static void takeOutLetsFall() {
        CHECK.promise(12, "then each card in the column 3 or 4 that names it falls, by rising numbers.");
        Cardgate x = Setup.withChanges(1, 1);
        int[] naming = new int[5];
        for (int k = 0; k < 5; k++) {
            naming[k] = Setup.cardNaming(x, 5, k < 4 ? new int[] {0} : new int[] {0, 1});
        }
        int unconcerned = Setup.cardIn(x, 3, 5, 1);
        for (int k = 1; k >= 0; k--) {
            Setup.moveTo(x, naming[k], 3);
        }
        x.moveBack(unconcerned);
        x.move(unconcerned);
        x.merge(1);
        Setup.moveTo(x, naming[4], 3);
        Setup.moveTo(x, naming[2], 2);
        Setup.moveTo(x, naming[3], 1);
        CHECK.equal("from 3 and 4 alone", 3, x.takeOut(0));
        CHECK.equal("by rising numbers, the latest pushed on", "[3 0 1]", Snapshot.column(x, 1));
        CHECK.equal("the last was pushed back itself", "[4]", Snapshot.column(x, 0));
        CHECK.equal("stays in 2", "[2]", Snapshot.column(x, 2));
        CHECK.equal("names another one", "[5]", Snapshot.column(x, 3));
        CHECK.equal("none is done", "[]", Snapshot.column(x, 4));
        for (int k = 0; k < 5; k++) {
            CHECK.equal("falls", k == 2 || k == 3 ? 0 : 1, x.falls(naming[k]));
            CHECK.equal("pushes", k == 4 ? 1 : 0, x.pushes(naming[k]));
        }
        CHECK.equal("the other change is queued still", Cardgate.QUEUED, x.state(1));
        takeOutPushesBack();
    }

    private static void takeOutPushesBack() {
        Cardgate x = Setup.queuing(1);
        x.merge(1);
        for (int rank : new int[] {7, 2, 6}) {
            x.move(x.card(rank));
        }
        CHECK.equal("one falls", 1, x.takeOut(0));
        CHECK.equal("the lowest rank goes", "[1 3 0]", Snapshot.column(x, 1));
        CHECK.equal("it is pushed", 1, x.pushes(2));
        CHECK.equal("the fallen one is not", 0, x.pushes(0));
        CHECK.equal("it has not fallen", 0, x.falls(2));
    }

    private static void takeOutReturns() {
        CHECK.promise(12, "Returns how many cards fall.");
        Cardgate x = Setup.queuing(1);
        x.merge(1);
        for (int count = 1; count <= 20; count++) {
            CHECK.equal("all that are done", count, x.takeOut(0));
            if (count < 20) {
                Setup.cardNaming(x, 5, 0);
            }
            for (int card = 0; card < x.cards(); card++) {
                letIn(x, card);
            }
        }
        Cardgate y = Setup.withChanges(1);
        int card = Setup.cardIn(y, 3, 5, 0);
        y.merge(1);
        y.takeOut(0);
        Setup.moveTo(y, card, 3);
        Setup.cardIn(y, 2, 5, 0);
        y.merge(1);
        CHECK.equal("those in 2 do not count", 1, y.takeOut(0));
        Cardgate z = Setup.queuing(1, 1);
        z.merge(2);
        z.takeOut(1);
        z.name(0, 0, false);
        CHECK.equal("none names it", 0, z.takeOut(0));
    }

    /** Lets a card come to the column 4, merging what is queued by that. */
    private static void letIn(Cardgate x, int card) {
        Setup.moveTo(x, card, 3);
        if (x.queued() > 0) {
            x.merge(x.queued());
        }
    }

    private static void takeOutOfNone() {
        CHECK.promise(12, "Throws IndexOutOfBoundsException if there is no such change");
        Cardgate x = Setup.queuing(1);
        x.merge(1);
        for (int change : Setup.beyond(1)) {
            CHECK.outOfBounds("no change " + change, x, () -> x.takeOut(change));
        }
        Cardgate full = Setup.withChanges(Setup.light(30));
        CHECK.outOfBounds("there are 30", full, () -> full.takeOut(30));
    }

    private static void takeOutRefuses() {
        CHECK.promise(12, "Throws IllegalStateException if it is not IN, or one that is IN needs it");
        Cardgate x = Setup.withChanges(1, 1, 1);
        x.need(1, 0);
        x.need(2, 0);
        CHECK.illegalState("open", x, () -> x.takeOut(0));
        Setup.cardIn(x, 3, 1, 0, 1);
        CHECK.illegalState("queued", x, () -> x.takeOut(0));
        x.merge(1);
        CHECK.equal("one that is queued needs it", 1, x.takeOut(0));
        CHECK.equal("and is open by that", Cardgate.OPEN, x.state(1));
        Setup.moveTo(x, 0, 3);
        x.merge(2);
        CHECK.illegalState("one that is in needs it", x, () -> x.takeOut(0));
        CHECK.equal("the needing one goes first", 1, x.takeOut(1));
        CHECK.equal("ones that are open need it", 0, x.takeOut(0));
        Setup.moveTo(x, 0, 3);
        x.setBroken(1, true);
        x.merge(2);
        CHECK.illegalState("refused", x, () -> x.takeOut(1));
        CHECK.equal("one that is refused needs it", 0, x.takeOut(0));

        Cardgate y = Setup.withChanges(Setup.light(30));
        y.need(29, 0);
        Setup.cardIn(y, 3, 1, 0, 29);
        y.merge(2);
        CHECK.illegalState("the highest needs the lowest", y, () -> y.takeOut(0));
    }
}
