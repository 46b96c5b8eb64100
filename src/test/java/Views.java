/** What can be seen of an object without changing it, as a text. */
final class Views {
    private static final int ROWS = 4;

    private Views() {
    }

    /** All but the text of the buffer, the saved states and the snapshots, which no query shows. */
    static String of(LateThermometers x) {
        StringBuilder view = new StringBuilder(stateOf(x));
        view.append(" saved ").append(x.count(10));
        view.append(" buffer ").append(x.count(11)).append(' ').append(x.firstError());
        return view.toString();
    }

    /** The state alone: what undo and goBack bring back. */
    static String stateOf(LateThermometers x) {
        StringBuilder view = new StringBuilder("counts");
        for (int what = 0; what <= 13; what++) {
            if (what != 10 && what != 11) {
                view.append(' ').append(x.count(what));
            }
        }
        for (int row = 0; row < ROWS; row++) {
            view.append(" row");
            for (int what = 0; what <= 3; what++) {
                view.append(' ').append(x.row(row, what));
            }
        }
        for (int thermometer = 0; thermometer < x.count(1); thermometer++) {
            addThermometer(view, x, thermometer);
        }
        for (int what = 0; what <= 3; what++) {
            view.append(" still ").append(x.ifStill(5, what)).append(' ').append(x.ifStill(48, what));
        }
        return view.append(" error ").append(x.meanError()).toString();
    }

    private static void addThermometer(StringBuilder view, LateThermometers x, int thermometer) {
        view.append(" thermometer");
        for (int what = 0; what <= 9; what++) {
            view.append(' ').append(x.ofThermometer(thermometer, what));
        }
        int kept = x.ofThermometer(thermometer, 7);
        for (int ago = 0; ago <= kept; ago++) {
            view.append(' ').append(x.reading(thermometer, ago, 0)).append(':').append(x.reading(thermometer, ago, 1));
        }
        view.append(" ranks ").append(x.ranked(0, thermometer)).append(' ').append(x.ranked(1, thermometer));
        view.append(" lags ").append(x.bestLag(thermometer)).append(' ').append(x.ifLag(thermometer, 5));
        view.append(" still ").append(x.stillIn(thermometer));
    }
}
