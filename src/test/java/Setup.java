/** Objects as the tests want them. */
final class Setup {
    private Setup() {
    }

    static Cardgate withCards(int... ranks) {
        Cardgate x = new Cardgate();
        for (int rank : ranks) {
            x.card(rank);
        }
        return x;
    }

    static Cardgate withChanges(int... weights) {
        Cardgate x = new Cardgate();
        addChanges(x, weights);
        return x;
    }

    static void addChanges(Cardgate x, int... weights) {
        for (int weight : weights) {
            x.change(weight);
        }
    }

    /** Adds a card that names these changes; returns its number. */
    static int cardNaming(Cardgate x, int rank, int... changes) {
        int card = x.card(rank);
        for (int change : changes) {
            x.name(card, change, true);
        }
        return card;
    }

    /** Moves a card on until it is in that column, or beyond it. */
    static void moveTo(Cardgate x, int card, int column) {
        while (x.columnOf(card) < column) {
            x.move(card);
        }
    }

    /** A card of rank 5 that names all of the changes, in the column 3, so that they are queued. */
    static Cardgate queuing(int... weights) {
        Cardgate x = withChanges(weights);
        int[] all = new int[weights.length];
        for (int k = 0; k < all.length; k++) {
            all[k] = k;
        }
        moveTo(x, cardNaming(x, 5, all), 3);
        return x;
    }
}
