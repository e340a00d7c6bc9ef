/** Objects as the tests want them. */
final class Setup {
    private Setup() {
    }

    static Cardgate withCards(int... ranks) {
        Cardgate x = new Cardgate();
        for (int rank : ranks) {
            x.card(rank);
        }
        return x;
    }

    static Cardgate withChanges(int... weights) {
        Cardgate x = new Cardgate();
        addChanges(x, weights);
        return x;
    }

    static void addChanges(Cardgate x, int... weights) {
        for (int weight : weights) {
            x.change(weight);
        }
    }

    /** So many weights of one hour each. */
    static int[] light(int count) {
        int[] weights = new int[count];
        java.util.Arrays.fill(weights, 1);
        return weights;
    }

    /** Adds a card that names these changes; returns its number. */
    static int cardNaming(Cardgate x, int rank, int... changes) {
        int card = x.card(rank);
        for (int change : changes) {
            x.name(card, change, true);
        }
        return card;
    }

    /** Moves a card on until it is in that column, or beyond it. */
    static void moveTo(Cardgate x, int card, int column) {
        while (x.columnOf(card) < column) {
            x.move(card);
        }
    }

    /** Adds a card that names these changes, and moves it on to that column; returns its number. */
    static int cardIn(Cardgate x, int column, int rank, int... changes) {
        int card = cardNaming(x, rank, changes);
        moveTo(x, card, column);
        return card;
    }

    /** A card of rank 5 that names all of the changes, in the column 3, so that they are queued. */
    static Cardgate queuing(int... weights) {
        Cardgate x = withChanges(weights);
        int[] all = new int[weights.length];
        for (int k = 0; k < all.length; k++) {
            all[k] = k;
        }
        cardIn(x, 3, 5, all);
        return x;
    }

    /** Numbers that none of so many cards, changes or places has; 32 and 64 are 0 as a shift. */
    static int[] beyond(int count) {
        return new int[] {
            -1, count, count + 1, 32, 64, -32, Integer.MIN_VALUE, Integer.MAX_VALUE,
        };
    }
}
