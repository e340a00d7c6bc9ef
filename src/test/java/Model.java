import java.util.ArrayList;
import java.util.List;
import java.util.TreeSet;

/**
 * The document written a second time, with lists and sets and no care for speed. Each call answers
 * as Cardgate does, or with one of the codes below for an exception.
 */
final class Model {
    static final long BOUNDS = -1001, ARGUMENT = -1002, STATE = -1003;

    private static final class Change {
        int weight;
        int state = 0;
        boolean broken = false;
        final TreeSet<Integer> needs = new TreeSet<>();
        final TreeSet<Integer> clashes = new TreeSet<>();
    }

    private static final class Card {
        int rank;
        int falls = 0;
        int pushes = 0;
        final TreeSet<Integer> names = new TreeSet<>();
    }

    /** What became of a row: the tries, as the weights and 5 hours of each, and what came in. */
    private static final class Outcome {
        final TreeSet<Integer> in = new TreeSet<>();
        final TreeSet<Integer> passed = new TreeSet<>();
        final List<Integer> tries = new ArrayList<>();

        int hours() {
            int sum = 0;
            for (int hours : tries) {
                sum += hours;
            }
            return sum;
        }
    }

    private final List<Card> cards = new ArrayList<>();
    private final List<Change> changes = new ArrayList<>();
    /** The cards of each column as they came. */
    private final List<List<Integer>> columns = new ArrayList<>();
    private final int[] limits = {1000, 3, 3, 3, 1000};
    private final List<Integer> queue = new ArrayList<>();
    private int hours = 0;

    Model() {
        for (int k = 0; k < 5; k++) {
            columns.add(new ArrayList<>());
        }
    }

    long call(String name, int a, int b, boolean flag) {
        return switch (name) {
            case "card" -> card(a);
            case "name" -> name(a, b, flag);
            case "move" -> !isCard(a) ? BOUNDS : !canMove(a) ? STATE : move(a);
            case "moveBack" -> moveBack(a);
            case "setLimit" -> setLimit(a, b);
            case "change" -> change(a);
            case "need" -> need(a, b);
            case "setBroken" -> setBroken(a, flag);
            case "setClash" -> setClash(a, b, flag);
            case "mend" -> mend(a);
            case "takeOut" -> takeOut(a);
            case "merge" -> merge(a);
            case "queued" -> queue.size();
            case "queuedAt" -> a < 0 || a >= queue.size() ? BOUNDS : queue.get(a);
            case "wouldPass" -> lengthError(a) != 0 ? lengthError(a) : places(asRow(a));
            case "wouldPassOneByOne" ->
                lengthError(a) != 0 ? lengthError(a) : places(oneByOne(a));
            case "wouldTake" ->
                lengthError(a) != 0 ? lengthError(a) : (flag ? oneByOne(a) : asRow(a)).hours();
            case "bestLength" -> bestLength();
            case "hours" -> hours;
            case "cards" -> cards.size();
            case "changes" -> changes.size();
            case "columnOf" -> isCard(a) ? columnOf(a) : BOUNDS;
            case "cardsIn" -> a < 0 || a > 4 ? BOUNDS : columns.get(a).size();
            case "cardAt" -> cardAt(a, b);
            case "canMove" -> isCard(a) ? (canMove(a) ? 1 : 0) : BOUNDS;
            case "lacks" -> isCard(a) ? lacks(a) : BOUNDS;
            case "falls" -> isCard(a) ? cards.get(a).falls : BOUNDS;
            case "pushes" -> isCard(a) ? cards.get(a).pushes : BOUNDS;
            case "state" -> isChange(a) ? changes.get(a).state : BOUNDS;
            case "namedBy" -> isChange(a) ? namedBy(a) : BOUNDS;
            default -> throw new IllegalArgumentException(name);
        };
    }

    private boolean isCard(int card) {
        return card >= 0 && card < cards.size();
    }

    private boolean isChange(int change) {
        return change >= 0 && change < changes.size();
    }

    private int columnOf(int card) {
        for (int k = 0; k < 5; k++) {
            if (columns.get(k).contains(card)) {
                return k;
            }
        }
        throw new AssertionError("card " + card + " is nowhere");
    }

    private long card(int rank) {
        if (rank < 0 || rank > 9) {
            return ARGUMENT;
        }
        if (cards.size() == 20) {
            return STATE;
        }
        Card card = new Card();
        card.rank = rank;
        cards.add(card);
        columns.get(0).add(cards.size() - 1);
        return cards.size() - 1;
    }

    private long name(int card, int change, boolean doesName) {
        if (!isCard(card) || !isChange(change)) {
            return BOUNDS;
        }
        if (columnOf(card) > 1) {
            return STATE;
        }
        if (doesName) {
            cards.get(card).names.add(change);
        } else {
            cards.get(card).names.remove(change);
        }
        return cards.get(card).names.size();
    }

    private boolean canMove(int card) {
        int column = columnOf(card);
        if (column >= 3 || columns.get(column + 1).size() == limits[column + 1]) {
            return false;
        }
        TreeSet<Integer> names = cards.get(card).names;
        if (column == 1 && names.isEmpty()) {
            return false;
        }
        if (column == 2) {
            for (int change : names) {
                if (changes.get(change).state == 3) {
                    return false;
                }
                for (int needed : changes.get(change).needs) {
                    int state = changes.get(needed).state;
                    if ((state == 0 || state == 3) && !names.contains(needed)) {
                        return false;
                    }
                }
            }
        }
        return true;
    }

    private long move(int card) {
        int column = columnOf(card);
        go(card, column + 1);
        if (column == 2) {
            boolean allIn = true;
            for (int change : cards.get(card).names) {
                if (changes.get(change).state == 0) {
                    changes.get(change).state = 1;
                    queue.add(change);
                }
                allIn &= changes.get(change).state == 2;
            }
            if (allIn) {
                go(card, 4);
            }
        }
        return columnOf(card);
    }

    private void go(int card, int column) {
        int from = columnOf(card);
        columns.get(from).remove((Integer) card);
        columns.get(column).add(card);
        if (from != 3 || column == 4) {
            return;
        }
        for (int change : cards.get(card).names) {
            boolean isNamed = false;
            for (int other : columns.get(3)) {
                isNamed |= cards.get(other).names.contains(change);
            }
            if (changes.get(change).state == 1 && !isNamed) {
                changes.get(change).state = 0;
                queue.remove((Integer) change);
            }
        }
    }

    private void pushBack(int column) {
        int pushed = -1;
        for (int card : columns.get(column)) {
            if (pushed < 0 || cards.get(card).rank <= cards.get(pushed).rank) {
                pushed = card;
            }
        }
        cards.get(pushed).pushes++;
        go(pushed, column - 1);
        if (columns.get(column - 1).size() > limits[column - 1]) {
            pushBack(column - 1);
        }
    }

    private void fall(int card) {
        cards.get(card).falls++;
        go(card, 1);
        if (columns.get(1).size() > limits[1]) {
            pushBack(1);
        }
    }

    private long moveBack(int card) {
        if (!isCard(card)) {
            return BOUNDS;
        }
        int column = columnOf(card);
        if (column == 0 || column == 4 || columns.get(column - 1).size() == limits[column - 1]) {
            return STATE;
        }
        go(card, column - 1);
        return column - 1;
    }

    private long setLimit(int column, int limit) {
        if (column < 1 || column > 3) {
            return BOUNDS;
        }
        if (limit < 1 || limit > 9) {
            return ARGUMENT;
        }
        int before = limits[column];
        limits[column] = limit;
        while (columns.get(column).size() > limit) {
            pushBack(column);
        }
        return before;
    }

    private long change(int weight) {
        if (weight < 1 || weight > 9) {
            return ARGUMENT;
        }
        if (changes.size() == 30) {
            return STATE;
        }
        Change change = new Change();
        change.weight = weight;
        changes.add(change);
        return changes.size() - 1;
    }

    private long need(int change, int other) {
        if (!isChange(change) || !isChange(other)) {
            return BOUNDS;
        }
        if (other >= change) {
            return ARGUMENT;
        }
        if (changes.get(change).state != 0 || !changes.get(change).needs.add(other)) {
            return STATE;
        }
        return changes.get(change).needs.size();
    }

    private long setBroken(int change, boolean isBroken) {
        if (!isChange(change)) {
            return BOUNDS;
        }
        Change it = changes.get(change);
        if (it.state == 2) {
            return STATE;
        }
        long was = it.broken ? 1 : 0;
        it.broken = isBroken;
        return was;
    }

    private long setClash(int change, int other, boolean doClash) {
        if (!isChange(change) || !isChange(other)) {
            return BOUNDS;
        }
        if (change == other) {
            return ARGUMENT;
        }
        Change one = changes.get(change);
        Change two = changes.get(other);
        if (one.state == 2 && two.state == 2) {
            return STATE;
        }
        long did = one.clashes.contains(other) ? 1 : 0;
        if (doClash) {
            one.clashes.add(other);
            two.clashes.add(change);
        } else {
            one.clashes.remove(other);
            two.clashes.remove(change);
        }
        return did;
    }

    private long mend(int change) {
        if (!isChange(change)) {
            return BOUNDS;
        }
        if (changes.get(change).state != 3) {
            return STATE;
        }
        changes.get(change).state = 0;
        changes.get(change).broken = false;
        return namedBy(change);
    }

    private long takeOut(int change) {
        if (!isChange(change)) {
            return BOUNDS;
        }
        if (changes.get(change).state != 2) {
            return STATE;
        }
        for (Change other : changes) {
            if (other.state == 2 && other.needs.contains(change)) {
                return STATE;
            }
        }
        changes.get(change).state = 0;
        int fallen = 0;
        for (int card = 0; card < cards.size(); card++) {
            if (columnOf(card) >= 3 && cards.get(card).names.contains(change)) {
                fall(card);
                fallen++;
            }
        }
        return fallen;
    }

    private long lengthError(int length) {
        return length < 1 || length > 8 ? ARGUMENT : length > queue.size() ? STATE : 0;
    }

    private long merge(int length) {
        if (lengthError(length) != 0) {
            return lengthError(length);
        }
        Outcome outcome = asRow(length);
        for (int k = 0; k < length; k++) {
            int change = queue.remove(0);
            changes.get(change).state = outcome.passed.contains(change) ? 2 : 3;
        }
        hours += outcome.hours();
        for (int card = 0; card < cards.size(); card++) {
            boolean refused = false;
            for (int change : cards.get(card).names) {
                refused |= changes.get(change).state == 3;
            }
            if (columnOf(card) == 3 && refused) {
                fall(card);
            }
        }
        for (int card = 0; card < cards.size(); card++) {
            if (columnOf(card) == 3 && lacks(card) == 0) {
                go(card, 4);
            }
        }
        return outcome.tries.size();
    }

    private Outcome asRow(int length) {
        Outcome outcome = start();
        mergeRow(queue.subList(0, length), outcome);
        return outcome;
    }

    private Outcome oneByOne(int length) {
        Outcome outcome = start();
        for (int change : queue.subList(0, length)) {
            List<Integer> row = List.of(change);
            if (isPassing(row, outcome)) {
                outcome.in.addAll(row);
                outcome.passed.addAll(row);
            }
        }
        return outcome;
    }

    private Outcome start() {
        Outcome outcome = new Outcome();
        for (int change = 0; change < changes.size(); change++) {
            if (changes.get(change).state == 2) {
                outcome.in.add(change);
            }
        }
        return outcome;
    }

    private void mergeRow(List<Integer> row, Outcome outcome) {
        if (isPassing(row, outcome)) {
            outcome.in.addAll(row);
            outcome.passed.addAll(row);
        } else if (row.size() > 1) {
            int half = row.size() - row.size() / 2;
            mergeRow(row.subList(0, half), outcome);
            mergeRow(row.subList(half, row.size()), outcome);
        }
    }

    private boolean isPassing(List<Integer> row, Outcome outcome) {
        int took = 5;
        boolean passes = true;
        for (int k = 0; k < row.size(); k++) {
            Change change = changes.get(row.get(k));
            took += change.weight;
            passes &= !change.broken;
            for (int needed : change.needs) {
                passes &= outcome.in.contains(needed) || row.subList(0, k).contains(needed);
            }
            for (int clashing : change.clashes) {
                passes &= !outcome.in.contains(clashing) && !row.subList(0, k).contains(clashing);
            }
        }
        outcome.tries.add(took);
        return passes;
    }

    private long places(Outcome outcome) {
        long sum = 0;
        for (int change : outcome.passed) {
            sum += 1L << queue.indexOf(change);
        }
        return sum;
    }

    private long bestLength() {
        long best = -1;
        for (int length = 1; length <= Math.min(8, queue.size()); length++) {
            if (best < 0 || rate(length) > rate((int) best) + 1e-9) {
                best = length;
            }
        }
        return best;
    }

    private double rate(int length) {
        Outcome outcome = asRow(length);
        return (double) outcome.passed.size() / outcome.hours();
    }

    private int lacks(int card) {
        int lacking = 0;
        for (int change : cards.get(card).names) {
            lacking += changes.get(change).state == 2 ? 0 : 1;
        }
        return lacking;
    }

    private int namedBy(int change) {
        int naming = 0;
        for (Card card : cards) {
            naming += card.names.contains(change) ? 1 : 0;
        }
        return naming;
    }

    private long cardAt(int column, int place) {
        if (column < 0 || column > 4 || place < 0 || place >= columns.get(column).size()) {
            return BOUNDS;
        }
        List<Integer> inOrder = new ArrayList<>(columns.get(column));
        inOrder.sort((a, b) -> cards.get(b).rank - cards.get(a).rank);
        return inOrder.get(place);
    }
}
