import java.util.ArrayList;
import java.util.List;

/** Long runs of calls on Cardgate and on Model; both must answer the same all the way. */
public final class ModelTest {
    private static final int RUNS = 3000;
    private static final int CALLS = 512;

    /** Each call is as likely as it stands here often; those that build and move stand often. */
    private static final String[] CALLED = {
        "card", "change", "name", "name", "name", "name", "name", "name", "name", "name", "move",
        "move", "move", "move", "move", "move", "move", "move", "move", "moveBack", "setLimit",
        "need", "setBroken", "setClash", "mend", "mend", "takeOut", "merge", "merge", "looks",
        "looks", "looks", "looks",
    };

    private static final String[] LOOKS = {
        "queued", "queuedAt", "wouldPass", "wouldPassOneByOne", "wouldTake", "bestLength", "hours",
        "cards", "changes", "columnOf", "cardsIn", "cardAt", "canMove", "lacks", "falls", "pushes",
        "state", "namedBy",
    };

    private static final int[] ODD = {
        -1, 0, 5, 8, 9, 10, 20, 30, 31, 32, 63, Integer.MIN_VALUE, Integer.MAX_VALUE,
    };

    private final List<String> told = new ArrayList<>();
    private Cardgate program = new Cardgate();
    private Model model = new Model();
    private long state;
    /** Whether the run asks for all that the object tells on its way too, and not at its end alone. */
    private final boolean looksAtAll;
    private final int waitsFor;
    private final boolean startsFull;

    private ModelTest(int seed) {
        state = seed * 7919L + 17;
        looksAtAll = seed % 4 == 0;
        waitsFor = seed % 12;
        startsFull = seed % 3 == 0;
    }

    public static void main(String[] args) {
        for (int seed = 1; seed <= RUNS; seed++) {
            if (!new ModelTest(seed).isRight()) {
                System.exit(1);
            }
        }
        System.out.println("ModelTest: " + RUNS + " runs of " + CALLS + " calls, 0 wrong");
    }

    private boolean isRight() {
        int cards = 2 + below(19);
        int changes = 1 + below(30);
        int calls = 0;
        for (; calls < cards; calls++) {
            if (!isSame("card", below(10), 0, false)) {
                return false;
            }
        }
        for (; calls < cards + changes; calls++) {
            if (!isSame("change", 1 + below(9), 0, false)) {
                return false;
            }
        }
        if (startsFull && !isFilledTheSame(cards, changes)) {
            return false;
        }
        for (calls = told.size(); calls < CALLS; calls++) {
            if (!isNextSame() || (looksAtAll && calls % 16 == 0 && !isAllSame())) {
                return false;
            }
        }
        return isAllSame();
    }

    /** Lets cards of several changes come to the column 3, so that the queue is long at once. */
    private boolean isFilledTheSame(int cards, int changes) {
        for (int column = 1; column <= 3; column++) {
            if (!isSame("setLimit", column, 9, false)) {
                return false;
            }
        }
        for (int k = 0; k < 8; k++) {
            int change = below(changes);
            if (!isSame("need", change, below(changes), false)
                    || !isSame("setClash", below(changes), below(changes), true)
                    || (k < 2 && !isSame("setBroken", change, 0, true))) {
                return false;
            }
        }
        for (int card = 0; card < cards && card < 9; card++) {
            for (int k = 0; k < 8; k++) {
                boolean isSame = k < 4 ? isSame("name", card, below(changes), true)
                    : isSame("move", card, 0, false);
                if (!isSame) {
                    return false;
                }
            }
        }
        for (int length = 1; length <= 8; length++) {
            if (!isSame("wouldPass", length, 0, false)
                    || !isSame("wouldPassOneByOne", length, 0, false)
                    || !isSame("wouldTake", length, 0, false)
                    || !isSame("wouldTake", length, 0, true)) {
                return false;
            }
        }
        return isSame("bestLength", 0, 0, false);
    }

    private boolean isNextSame() {
        String name = CALLED[below(CALLED.length)];
        // A queue that is left alone for a while has the longer rows.
        if (name.equals("merge") && program.queued() < waitsFor && below(4) != 0) {
            name = "move";
        }
        if (name.equals("looks")) {
            name = LOOKS[below(LOOKS.length)];
        }
        int a = argument(name, true);
        int b = argument(name, false);
        boolean flag = below(3) != 0;
        if (name.equals("setBroken") || name.equals("setClash")) {
            flag = below(3) == 0;
        }
        return isSame(name, a, b, flag);
    }

    private int argument(String name, boolean isFirst) {
        if (below(40) == 0) {
            return ODD[below(ODD.length)];
        }
        int cards = program.cards();
        int changes = program.changes();
        return switch (name) {
            case "card" -> below(10);
            case "change" -> 1 + below(9);
            case "setLimit" -> isFirst ? 1 + below(3) : 1 + below(below(3) == 0 ? 2 : 9);
            case "merge", "wouldPass", "wouldPassOneByOne", "wouldTake" ->
                1 + below(Math.max(1, Math.min(8, program.queued())));
            case "queuedAt" -> below(program.queued() + 1);
            case "cardsIn" -> below(5);
            case "cardAt" -> below(5);
            case "name" -> below(isFirst ? cards : changes);
            case "need" -> isFirst ? below(changes) : below(Math.max(1, changes / 2));
            case "mend" -> changeThatIs(Cardgate.REFUSED);
            case "takeOut" -> changeThatIs(Cardgate.IN);
            case "setBroken", "setClash", "state", "namedBy" -> below(changes);
            case "move" -> cardThatMoves();
            default -> below(cards);
        };
    }

    /** Mostly such a change, as a call with another one often throws. */
    private int changeThatIs(int wanted) {
        int change = below(program.changes());
        for (int k = 0; k < 10 && program.state(change) != wanted; k++) {
            change = below(program.changes());
        }
        return change;
    }

    /** Mostly a card that can move, and not too often on to the column 1. */
    private int cardThatMoves() {
        int card = below(program.cards());
        for (int k = 0; k < 10; k++) {
            if (program.canMove(card) && (program.columnOf(card) != 0 || below(3) == 0)) {
                return card;
            }
            card = below(program.cards());
        }
        return card;
    }

    /** Asks all that there is to ask, with arguments one beyond either end. */
    private boolean isAllSame() {
        for (String name : LOOKS) {
            for (int a = -1; a <= 31; a++) {
                if (!isSame(name, a, 0, false) || !isSame(name, a, 0, true)) {
                    return false;
                }
            }
        }
        for (int column = -1; column <= 5; column++) {
            for (int place = -1; place <= 20; place++) {
                if (!isSame("cardAt", column, place, false)) {
                    return false;
                }
            }
        }
        return true;
    }

    private boolean isSame(String name, int a, int b, boolean flag) {
        long due = model.call(name, a, b, flag);
        long got = ask(name, a, b, flag);
        if (!looksAtAll || told.size() < CALLS) {
            told.add(name + "(" + a + ", " + b + ", " + flag + ") = " + due);
        }
        if (due == got) {
            return true;
        }
        for (String line : told) {
            System.out.println(line);
        }
        System.out.println("ModelTest: the last call answered " + got + ", due is " + due);
        return false;
    }

    private long ask(String name, int a, int b, boolean flag) {
        try {
            return answer(name, a, b, flag);
        } catch (RuntimeException e) {
            // The very classes: one below them is what the machine throws.
            return e.getClass() == IndexOutOfBoundsException.class ? Model.BOUNDS
                : e.getClass() == IllegalArgumentException.class ? Model.ARGUMENT
                : e.getClass() == IllegalStateException.class ? Model.STATE
                : -9999;
        }
    }

    private long answer(String name, int a, int b, boolean flag) {
        return switch (name) {
            case "card" -> program.card(a);
            case "name" -> program.name(a, b, flag);
            case "move" -> program.move(a);
            case "moveBack" -> program.moveBack(a);
            case "setLimit" -> program.setLimit(a, b);
            case "change" -> program.change(a);
            case "need" -> program.need(a, b);
            case "setBroken" -> program.setBroken(a, flag) ? 1 : 0;
            case "setClash" -> program.setClash(a, b, flag) ? 1 : 0;
            case "mend" -> program.mend(a);
            case "takeOut" -> program.takeOut(a);
            case "merge" -> program.merge(a);
            case "queued" -> program.queued();
            case "queuedAt" -> program.queuedAt(a);
            case "wouldPass" -> program.wouldPass(a);
            case "wouldPassOneByOne" -> program.wouldPassOneByOne(a);
            case "wouldTake" -> program.wouldTake(a, flag);
            case "bestLength" -> program.bestLength();
            case "hours" -> program.hours();
            case "cards" -> program.cards();
            case "changes" -> program.changes();
            case "columnOf" -> program.columnOf(a);
            case "cardsIn" -> program.cardsIn(a);
            case "cardAt" -> program.cardAt(a, b);
            case "canMove" -> program.canMove(a) ? 1 : 0;
            case "lacks" -> program.lacks(a);
            case "falls" -> program.falls(a);
            case "pushes" -> program.pushes(a);
            case "state" -> program.state(a);
            case "namedBy" -> program.namedBy(a);
            default -> throw new AssertionError(name);
        };
    }

    /** A number from 0 up to below the bound, the same in every run of the test. */
    private int below(int bound) {
        state = state * 6364136223846793005L + 1442695040888963407L;
        return (int) ((state >>> 33) % bound);
    }
}
