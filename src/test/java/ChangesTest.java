/** Promises 7 to 12: change, need, setBroken, setClash, mend, takeOut. */
public final class ChangesTest {
    private static final Check CHECK = new Check("ChangesTest");

    public static void main(String[] args) {
        changeIsNumbered();
        changeRefuses();
        needCounts();
        needRefuses();
        setBrokenTells();
        setBrokenRefuses();
        setClashTells();
        setClashRefuses();
        mendOpens();
        mendRefuses();
        takeOutOpens();
        takeOutLetsFall();
        takeOutPushesBack();
        takeOutOpensQueued();
        takeOutRefuses();
        CHECK.end();
    }

    private static void changeIsNumbered() {
        Cardgate x = new Cardgate();
        for (int number = 0; number < 30; number++) {
            CHECK.equal("change number", number, x.change(number % 9 + 1));
        }
        CHECK.equal("changes", 30, x.changes());
        CHECK.equal("open at first", Cardgate.OPEN, x.state(29));
        CHECK.equal("named by none at first", 0, x.namedBy(29));
        Cardgate light = Setup.queuing(1);
        CHECK.equal("takes the weight", 6, light.wouldTake(1, false));
        Cardgate heavy = Setup.queuing(9);
        CHECK.equal("takes the weight", 14, heavy.wouldTake(1, false));
    }

    private static void changeRefuses() {
        Cardgate x = new Cardgate();
        CHECK.illegalArgument("change(0)", x, () -> x.change(0));
        CHECK.illegalArgument("change(10)", x, () -> x.change(10));
        CHECK.illegalArgument("change(-1)", x, () -> x.change(-1));
        for (int k = 0; k < 30; k++) {
            x.change(1);
        }
        CHECK.illegalState("the 31st change", x, () -> x.change(1));
        CHECK.illegalArgument("the 31st change out of range", x, () -> x.change(0));
    }

    private static void needCounts() {
        Cardgate x = Setup.withChanges(1, 1, 1, 1);
        CHECK.equal("one", 1, x.need(3, 0));
        CHECK.equal("two", 2, x.need(3, 2));
        CHECK.equal("another change", 1, x.need(2, 0));
        CHECK.equal("three", 3, x.need(3, 1));
        Cardgate full = new Cardgate();
        for (int k = 0; k < 30; k++) {
            full.change(1);
        }
        for (int k = 0; k < 29; k++) {
            CHECK.equal("so many", k + 1, full.need(29, k));
        }
    }

    private static void needRefuses() {
        Cardgate x = Setup.withChanges(1, 1, 1);
        CHECK.outOfBounds("need(3, 0)", x, () -> x.need(3, 0));
        CHECK.outOfBounds("need(-1, 0)", x, () -> x.need(-1, 0));
        CHECK.outOfBounds("need(1, -1)", x, () -> x.need(1, -1));
        CHECK.outOfBounds("need(1, 3)", x, () -> x.need(1, 3));
        CHECK.illegalArgument("need(1, 1)", x, () -> x.need(1, 1));
        CHECK.illegalArgument("need(1, 2)", x, () -> x.need(1, 2));
        x.need(1, 0);
        CHECK.illegalState("needs it already", x, () -> x.need(1, 0));
        int card = Setup.cardNaming(x, 1, 2);
        Setup.moveTo(x, card, 3);
        CHECK.illegalState("queued", x, () -> x.need(2, 0));
        CHECK.illegalArgument("queued, and not lower", x, () -> x.need(2, 2));
        x.merge(1);
        CHECK.illegalState("in", x, () -> x.need(2, 0));
        x.takeOut(2);
        CHECK.equal("open again", 1, x.need(2, 1));
        x.need(2, 0);
        x.moveBack(card);
        x.name(card, 0, true);
        x.name(card, 1, true);
        Setup.moveTo(x, card, 3);
        x.setBroken(2, true);
        x.merge(3);
        CHECK.illegalState("refused", x, () -> x.need(2, 0));
        x.change(1);
        CHECK.equal("the other may be in", 1, x.need(3, 0));
        CHECK.equal("the other may be refused", 2, x.need(3, 2));
    }

    private static void setBrokenTells() {
        Cardgate x = Setup.queuing(1, 1);
        CHECK.equal("was not", false, x.setBroken(0, true));
        CHECK.equal("was", true, x.setBroken(0, true));
        CHECK.equal("the other one holds", 2, x.wouldPass(2));
        CHECK.equal("was", true, x.setBroken(0, false));
        CHECK.equal("was not", false, x.setBroken(0, false));
        CHECK.equal("both hold", 3, x.wouldPass(2));
        x.setBroken(1, true);
        x.merge(2);
        CHECK.equal("refused", Cardgate.REFUSED, x.state(1));
        CHECK.equal("a refused one may be told", true, x.setBroken(1, false));
        CHECK.equal("it is refused still", Cardgate.REFUSED, x.state(1));
    }

    private static void setBrokenRefuses() {
        Cardgate x = Setup.queuing(1);
        CHECK.outOfBounds("setBroken(-1)", x, () -> x.setBroken(-1, true));
        CHECK.outOfBounds("setBroken(1)", x, () -> x.setBroken(1, false));
        x.merge(1);
        CHECK.illegalState("in", x, () -> x.setBroken(0, true));
        CHECK.illegalState("in, and not broken anyway", x, () -> x.setBroken(0, false));
    }

    private static void setClashTells() {
        Cardgate x = Setup.queuing(1, 1, 1);
        CHECK.equal("did not", false, x.setClash(0, 1, true));
        CHECK.equal("did, the other way round", true, x.setClash(1, 0, true));
        CHECK.equal("another one does not", false, x.setClash(0, 2, false));
        CHECK.equal("the first of both holds", 5, x.wouldPass(3));
        CHECK.equal("did", true, x.setClash(1, 0, false));
        CHECK.equal("not any more", false, x.setClash(0, 1, false));
        CHECK.equal("all hold", 7, x.wouldPass(3));
        x.merge(1);
        CHECK.equal("one of both is in", false, x.setClash(0, 1, true));
        CHECK.equal("one of both is in", true, x.setClash(1, 0, true));
        CHECK.equal("clashes with one that is in", 2, x.wouldPass(2));
    }

    private static void setClashRefuses() {
        Cardgate x = Setup.queuing(1, 1, 1);
        CHECK.outOfBounds("setClash(-1, 0)", x, () -> x.setClash(-1, 0, true));
        CHECK.outOfBounds("setClash(0, -1)", x, () -> x.setClash(0, -1, true));
        CHECK.outOfBounds("setClash(3, 0)", x, () -> x.setClash(3, 0, true));
        CHECK.outOfBounds("setClash(0, 3)", x, () -> x.setClash(0, 3, true));
        CHECK.outOfBounds("setClash(3, 3)", x, () -> x.setClash(3, 3, true));
        CHECK.illegalArgument("setClash(1, 1)", x, () -> x.setClash(1, 1, true));
        x.merge(2);
        CHECK.illegalState("both are in", x, () -> x.setClash(0, 1, true));
        CHECK.illegalState("both are in", x, () -> x.setClash(1, 0, false));
        CHECK.illegalArgument("the same, in", x, () -> x.setClash(1, 1, true));
    }

    private static void mendOpens() {
        Cardgate x = Setup.queuing(1, 1);
        Setup.cardNaming(x, 1, 0);
        x.setBroken(0, true);
        x.merge(1);
        CHECK.equal("refused", Cardgate.REFUSED, x.state(0));
        CHECK.equal("named by", 2, x.mend(0));
        CHECK.equal("open", Cardgate.OPEN, x.state(0));
        CHECK.equal("not queued", "[]", Snapshot.queue(x));
        CHECK.equal("not broken", false, x.setBroken(0, false));
        Setup.moveTo(x, 0, 3);
        CHECK.equal("holds now", 3, x.wouldPass(2));

        Cardgate y = Setup.queuing(1, 1);
        y.setClash(0, 1, true);
        y.merge(2);
        CHECK.equal("names it still", 1, y.mend(1));
        Setup.moveTo(y, 0, 3);
        CHECK.equal("clashes still", 0, y.wouldPass(1));
        y.merge(1);
        y.name(0, 1, false);
        CHECK.equal("named by none", 0, y.mend(1));
    }

    private static void mendRefuses() {
        Cardgate x = Setup.withChanges(1);
        int card = Setup.cardNaming(x, 1, 0);
        CHECK.outOfBounds("mend(-1)", x, () -> x.mend(-1));
        CHECK.outOfBounds("mend(1)", x, () -> x.mend(1));
        x.setBroken(0, true);
        CHECK.illegalState("open", x, () -> x.mend(0));
        CHECK.equal("broken still", true, x.setBroken(0, false));
        Setup.moveTo(x, card, 3);
        CHECK.illegalState("queued", x, () -> x.mend(0));
        x.merge(1);
        CHECK.illegalState("in", x, () -> x.mend(0));
    }

    private static void takeOutOpens() {
        Cardgate x = Setup.queuing(1, 1);
        x.merge(1);
        CHECK.equal("the one card, in 3", 1, x.takeOut(0));
        CHECK.equal("open", Cardgate.OPEN, x.state(0));
        CHECK.equal("fallen", 1, x.columnOf(0));
        CHECK.equal("falls", 1, x.falls(0));
        Setup.moveTo(x, 0, 3);
        CHECK.equal("queued anew", "[0 1]", Snapshot.queue(x));
        x.merge(2);
        x.takeOut(1);
        x.name(0, 1, false);
        x.name(0, 0, false);
        CHECK.equal("no card names it", 0, x.takeOut(0));
    }

    private static void takeOutLetsFall() {
        Cardgate x = Setup.withChanges(1, 1);
        int[] naming = new int[5];
        for (int k = 0; k < 5; k++) {
            naming[k] = Setup.cardNaming(x, 5, k < 4 ? new int[] {0} : new int[] {0, 1});
        }
        for (int k = 0; k < 2; k++) {
            Setup.moveTo(x, naming[k], 3);
        }
        x.merge(1);
        Setup.moveTo(x, naming[4], 3);
        Setup.moveTo(x, naming[2], 2);
        Setup.moveTo(x, naming[3], 1);
        CHECK.equal("from 3 and 4 alone", 3, x.takeOut(0));
        CHECK.equal("by rising numbers, the latest pushed on", "[3 0 1]", Snapshot.column(x, 1));
        CHECK.equal("the last was pushed back itself", "[4]", Snapshot.column(x, 0));
        CHECK.equal("stays in 2", "[2]", Snapshot.column(x, 2));
        CHECK.equal("falls", 1, x.falls(4));
        CHECK.equal("pushes", 1, x.pushes(4));
        CHECK.equal("pushes", 0, x.pushes(0));
        CHECK.equal("not fallen", 0, x.falls(2));
        CHECK.equal("not fallen", 0, x.falls(3));
        CHECK.equal("the other is open again", Cardgate.OPEN, x.state(1));
    }

    private static void takeOutPushesBack() {
        Cardgate x = Setup.queuing(1);
        x.merge(1);
        for (int rank : new int[] {7, 2, 6}) {
            x.move(x.card(rank));
        }
        CHECK.equal("one falls", 1, x.takeOut(0));
        CHECK.equal("the lowest rank goes", "[1 3 0]", Snapshot.column(x, 1));
        CHECK.equal("it is pushed", 1, x.pushes(2));
        CHECK.equal("the fallen one is not", 0, x.pushes(0));
        CHECK.equal("it has not fallen", 0, x.falls(2));
    }

    private static void takeOutOpensQueued() {
        Cardgate x = Setup.withChanges(1, 1, 1);
        Setup.moveTo(x, Setup.cardNaming(x, 1, 0, 1, 2), 3);
        Setup.moveTo(x, Setup.cardNaming(x, 1, 1), 3);
        x.merge(1);
        x.takeOut(0);
        CHECK.equal("the one that no card there names", Cardgate.OPEN, x.state(2));
        CHECK.equal("the other stays", "[1]", Snapshot.queue(x));
    }

    private static void takeOutRefuses() {
        Cardgate x = Setup.withChanges(1, 1);
        x.need(1, 0);
        CHECK.outOfBounds("takeOut(-1)", x, () -> x.takeOut(-1));
        CHECK.outOfBounds("takeOut(2)", x, () -> x.takeOut(2));
        CHECK.illegalState("open", x, () -> x.takeOut(0));
        Setup.moveTo(x, Setup.cardNaming(x, 1, 0, 1), 3);
        CHECK.illegalState("queued", x, () -> x.takeOut(0));
        x.merge(2);
        CHECK.illegalState("one that is in needs it", x, () -> x.takeOut(0));
        CHECK.equal("the needing one goes first", 1, x.takeOut(1));
        CHECK.equal("then it goes", 0, x.takeOut(0));
        Setup.moveTo(x, 0, 3);
        x.setBroken(1, true);
        x.merge(2);
        CHECK.equal("the needing one is refused", Cardgate.REFUSED, x.state(1));
        CHECK.illegalState("refused", x, () -> x.takeOut(1));
        CHECK.equal("a refused one does not hold it", 0, x.takeOut(0));
    }
}
