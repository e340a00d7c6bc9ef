/** All that an object answers without changing, as a text. */
final class Snapshot {
    private Snapshot() {
    }

    static String of(Cardgate x) {
        StringBuilder text = new StringBuilder();
        for (int column = 0; column <= 4; column++) {
            text.append(column(x, column)).append(' ');
        }
        for (int card = 0; card < x.cards(); card++) {
            text.append(" card ").append(card).append(" at ").append(x.columnOf(card));
            text.append(" lacks ").append(x.lacks(card)).append(" falls ").append(x.falls(card));
            text.append(" pushes ").append(x.pushes(card)).append(' ').append(x.canMove(card));
        }
        for (int change = 0; change < x.changes(); change++) {
            text.append(" change ").append(change).append(" is ").append(x.state(change));
            text.append(" named by ").append(x.namedBy(change));
        }
        text.append(" queue ").append(queue(x)).append(" hours ").append(x.hours());
        text.append(" best ").append(x.bestLength());
        for (int length = 1; length <= 8 && length <= x.queued(); length++) {
            text.append(' ').append(x.wouldPass(length)).append('/').append(x.wouldTake(length, false));
            text.append(' ').append(x.wouldPassOneByOne(length));
            text.append('/').append(x.wouldTake(length, true));
        }
        return text.toString();
    }

    static String column(Cardgate x, int column) {
        StringBuilder text = new StringBuilder("[");
        for (int place = 0; place < x.cardsIn(column); place++) {
            text.append(place == 0 ? "" : " ").append(x.cardAt(column, place));
        }
        return text.append(']').toString();
    }

    static String queue(Cardgate x) {
        StringBuilder text = new StringBuilder("[");
        for (int place = 0; place < x.queued(); place++) {
            text.append(place == 0 ? "" : " ").append(x.queuedAt(place));
        }
        return text.append(']').toString();
    }
}
