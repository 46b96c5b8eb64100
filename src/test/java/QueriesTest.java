/** Promises 16 to 21: ofThermometer, reading, row, count, ranked, between. */
public final class QueriesTest {
    private static final int NONE = LateThermometers.NONE;
    private static final Checks CHECKS = new Checks();

    public static void main(String[] args) {
        ofThermometerTells();
        readingTells();
        rowTells();
        countTells();
        slopeIsFromTheMeanBefore();
        middleIsTheLowerOne();
        rankedByTemperature();
        rankedByError();
        betweenCounts();
        queriesChangeNothing();
        CHECKS.finish("QueriesTest");
    }

    /** Lag 1 all: each shows the truth plus its offset plus its knock; one reading each, so mended is truth plus knock. */
    private static LateThermometers knocked(int... knocks) {
        LateThermometers x = new LateThermometers();
        x.set(0, 2000);
        for (int i = 0; i < knocks.length; i++) {
            x.thermometer(i % 4, 9, 3 * i, 1 + i % 5);
            x.knock(i, knocks[i]);
        }
        x.hour(1000);
        return x;
    }

    /** Three thermometers; the last one was knocked, and has its first spike. */
    private static LateThermometers withASpike() {
        LateThermometers x = new LateThermometers();
        x.thermometer(2, 1, 0, 1);
        x.thermometer(2, 1, 0, 1);
        x.thermometer(3, 4, -80, 5);
        x.set(0, 10);
        x.hour(1000);
        x.knock(2, 200);
        x.hour(1000);
        return x;
    }

    private static void ofThermometerTells() {
        LateThermometers x = withASpike();
        int[] due = {3, 4, -80, 5, 1070, 1, 0, 2, 1, 1070 + 150 * 3 + 80};
        for (int what = 0; what < 10; what++) {
            CHECKS.same("ofThermometer(2, " + what + ")", x.ofThermometer(2, what), due[what]);
        }
        x.knock(2, 1000);
        x.hour(1000);
        CHECKS.same("shut out", x.ofThermometer(2, 6), 1);
        CHECKS.same("shut out, but mended", x.ofThermometer(2, 9), 1783 + (1783 - 1070) * 3 + 80);
        CHECKS.refusesRow("ofThermometer(3, 0)", withASpike(), y -> y.ofThermometer(3, 0));
        CHECKS.refusesRow("ofThermometer(-1, 10)", withASpike(), y -> y.ofThermometer(-1, 10));
        CHECKS.refusesArgument("ofThermometer(0, 10)", withASpike(), y -> y.ofThermometer(0, 10));
        CHECKS.refusesArgument("ofThermometer(0, -1)", withASpike(), y -> y.ofThermometer(0, -1));
    }

    private static void readingTells() {
        LateThermometers x = new LateThermometers();
        x.thermometer(0, 1, 7, 1);
        CHECKS.same("none", x.reading(0, 0, 0), NONE);
        CHECKS.same("none", x.reading(0, 0, 1), NONE);
        x.period(0, 2);
        x.hours(4, 10);
        CHECKS.same("the latest hour", x.reading(0, 0, 0), 4);
        CHECKS.same("the latest value", x.reading(0, 0, 1), 1047);
        CHECKS.same("the hour before", x.reading(0, 1, 0), 2);
        CHECKS.same("the value before", x.reading(0, 1, 1), 1027);
        CHECKS.same("not so many", x.reading(0, 2, 0), NONE);
        CHECKS.same("not so many", x.reading(0, Integer.MAX_VALUE, 1), NONE);
        x.hours(20, 0);
        CHECKS.same("the sixth", x.reading(0, 5, 0), 14);
        CHECKS.same("the seventh", x.reading(0, 6, 0), NONE);
        CHECKS.same("the seventh", x.reading(0, 6, 1), NONE);
        CHECKS.refusesRow("reading(1, -1, 2)", knocked(90), y -> y.reading(1, -1, 2));
        CHECKS.refusesRow("reading(-1, 0, 0)", knocked(90), y -> y.reading(-1, 0, 0));
        CHECKS.refusesArgument("reading(0, -1, 0)", knocked(90), y -> y.reading(0, -1, 0));
        CHECKS.refusesArgument("reading(0, MIN, 0)", knocked(90), y -> y.reading(0, Integer.MIN_VALUE, 0));
        CHECKS.refusesArgument("reading(0, 0, 2)", knocked(90), y -> y.reading(0, 0, 2));
        CHECKS.refusesArgument("reading(0, 0, -1)", knocked(90), y -> y.reading(0, 0, -1));
        CHECKS.refusesArgument("reading(0, 9, 2)", knocked(90), y -> y.reading(0, 9, 2));
    }

    private static void rowTells() {
        LateThermometers x = new LateThermometers();
        x.thermometer(1, 1, 0, 1);
        x.thermometer(3, 1, 0, 1);
        x.thermometer(1, 1, 0, 1);
        x.period(1, 4);
        x.period(2, 6);
        int[] reads = {0, 0, 0, 0};
        for (int hour = 0; hour < 24; hour++) {
            int[] periods = {1, 4, 6, 1};
            int[] thermometers = {0, 2, 0, 1};
            for (int row = 0; row < 4; row++) {
                CHECKS.same("period of " + row, x.row(row, 0), periods[row]);
                CHECKS.same("thermometers of " + row, x.row(row, 1), thermometers[row]);
                CHECKS.same("next of " + row, x.row(row, 2), periods[row] - hour % periods[row]);
                CHECKS.same("reads of " + row, x.row(row, 3), reads[row]);
                reads[row] += (hour + 1) % periods[row] == 0 ? 1 : 0;
            }
            x.hour(0);
        }
        CHECKS.refusesRow("row(4, 0)", knocked(90), y -> y.row(4, 0));
        CHECKS.refusesRow("row(-1, 4)", knocked(90), y -> y.row(-1, 4));
        CHECKS.refusesArgument("row(0, 4)", knocked(90), y -> y.row(0, 4));
        CHECKS.refusesArgument("row(3, -1)", knocked(90), y -> y.row(3, -1));
    }

    private static void countTells() {
        LateThermometers x = new LateThermometers();
        x.thermometer(0, 1, 0, 3);
        x.thermometer(0, 2, 0, 4);
        x.thermometer(0, 1, 0, 1);
        x.thermometer(1, 1, 0, 5);
        x.period(1, 6);
        x.set(0, 100);
        x.set(1, 1);
        x.hour(1001);
        x.knock(1, 300);
        x.hour(1010);
        x.append('h');
        x.append('h');
        // 1 shows 1000, is knocked to 1300, shows 1155: mended 1310, a spike
        int[] due = {2, 4, 1010, 5, 2, 1010, 1010 - (3 * 1001 + 4 * 1000 + 1001) / 8, 1010, 6, 1, 6, 2, 100, 1};
        for (int what = 0; what < due.length; what++) {
            CHECKS.same("count(" + what + ")", x.count(what), due[what]);
        }
        CHECKS.refusesArgument("count(14)", knocked(90), y -> y.count(14));
        CHECKS.refusesArgument("count(-1)", knocked(90), y -> y.count(-1));
        LateThermometers y = knocked(0, 90, 180);
        CHECKS.same("0, 80 and 160 more, weighted", y.count(5), (1 * 1000 + 2 * 1080 + 3 * 1160) / 6);
        y.hour(-1000);
        int sum = 0;
        for (int i = 0; i < 3; i++) {
            sum += (i + 1) * y.ofThermometer(i, 9);
        }
        CHECKS.same("below zero, toward zero", y.count(5), sum / 6);
    }

    private static void slopeIsFromTheMeanBefore() {
        LateThermometers x = new LateThermometers();
        x.thermometer(0, 1, 0, 1);
        CHECKS.same("no hour has passed", x.count(6), NONE);
        x.hour(500);
        CHECKS.same("there was no mean before", x.count(6), NONE);
        x.hour(600);
        CHECKS.same("600 - 500", x.count(6), 100);
        x.hour(550);
        CHECKS.same("550 - 600", x.count(6), -50);
        x.thermometer(1, 9, 0, 1);
        x.period(0, 6);
        x.calibrate(0);
        CHECKS.same("there is no mean now", x.count(6), NONE);
        x.hour(100);
        CHECKS.same("there was none before", x.count(6), NONE);
        x.hour(1000);
        CHECKS.same("there is one again", x.count(6), x.count(5) - x.reading(1, 1, 1));
        int slope = x.count(6);
        x.knock(1, 1000);
        CHECKS.same("a knock changes nothing yet", x.count(6), slope);
        x.undo();
        x.undo();
        CHECKS.same("undone", x.count(6), NONE);
        LateThermometers y = new LateThermometers();
        y.thermometer(0, 1, 0, 1);
        y.thermometer(1, 9, 0, 1);
        y.hour(1000);
        y.hour(1900);
        int before = y.count(5);
        y.hour(1000);
        y.calibrate(1);
        CHECKS.same("the mean of now, the mean of before", y.count(6), 1000 - before);
    }

    private static void middleIsTheLowerOne() {
        CHECKS.same("of one", knocked(90).count(7), 1080);
        CHECKS.same("of two", knocked(180, 90).count(7), 1080);
        CHECKS.same("of three", knocked(180, 90, -90).count(7), 1080);
        CHECKS.same("of four", knocked(180, -90, 90, 270).count(7), 1080);
        CHECKS.same("of five", knocked(90, 90, 180, 0, 270).count(7), 1080);
        CHECKS.same("of ten", knocked(900, 810, 720, 630, 540, 450, 360, 270, 180, 90).count(7), 1400);
    }

    private static void rankedByTemperature() {
        LateThermometers x = knocked(270, -180, 90, -180, 900, 90);
        int[] due = {1, 3, 2, 5, 0, 4, NONE};
        for (int rank = 0; rank < due.length; rank++) {
            CHECKS.same("ranked(0, " + rank + ")", x.ranked(0, rank), due[rank]);
        }
        CHECKS.same("ranked(0, MAX)", x.ranked(0, Integer.MAX_VALUE), NONE);
        x.calibrate(3);
        CHECKS.same("without 3", x.ranked(0, 1), 2);
        CHECKS.same("without 3: the last", x.ranked(0, 4), 4);
        CHECKS.same("without 3: none", x.ranked(0, 5), NONE);
        CHECKS.refusesArgument("ranked(2, 0)", knocked(90), y -> y.ranked(2, 0));
        CHECKS.refusesArgument("ranked(-1, 0)", knocked(90), y -> y.ranked(-1, 0));
        CHECKS.refusesArgument("ranked(0, -1)", knocked(90), y -> y.ranked(0, -1));
        CHECKS.refusesArgument("ranked(1, MIN)", knocked(90), y -> y.ranked(1, Integer.MIN_VALUE));
    }

    private static void rankedByError() {
        LateThermometers x = knocked(90, -180, 180, 0, 900, -90);
        int[] due = {4, 1, 2, 0, 5, 3, NONE};
        for (int rank = 0; rank < due.length; rank++) {
            CHECKS.same("ranked(1, " + rank + ")", x.ranked(1, rank), due[rank]);
        }
        LateThermometers y = knocked(0, 900, 0);
        y.set(0, 10);
        y.set(1, 1);
        y.knock(1, 900);
        y.hour(1000);
        CHECKS.same("1 is shut out", y.count(4), 2);
        CHECKS.same("who is shut out has a place too", y.ranked(1, 0), 1);
        CHECKS.same("and at the end of the other order", y.ranked(0, 2), 1);
    }

    private static void betweenCounts() {
        LateThermometers x = knocked(0, 90, 180, -90);
        CHECKS.same("all", x.between(Integer.MIN_VALUE, Integer.MAX_VALUE), 4);
        CHECKS.same("both ends belong to it", x.between(1000, 1160), 3);
        CHECKS.same("just inside", x.between(1001, 1159), 1);
        CHECKS.same("one number", x.between(920, 920), 1);
        CHECKS.same("none", x.between(1161, 9999), 0);
        CHECKS.same("turned round", x.between(1160, 1000), 0);
        x.calibrate(0);
        CHECKS.same("without a reading", x.between(Integer.MIN_VALUE, Integer.MAX_VALUE), 3);
        CHECKS.same("NONE is no temperature", x.between(NONE, NONE), 0);
        x.set(0, 10);
        x.set(1, 1);
        x.hour(1000);
        CHECKS.isTrue("some are shut out", x.count(4) != 0);
        CHECKS.same("they count", x.between(Integer.MIN_VALUE, Integer.MAX_VALUE), 4);
    }

    private static void queriesChangeNothing() {
        Checks.Call[] queries = {y -> y.ofThermometer(0, 9), y -> y.reading(0, 0, 1), y -> y.row(0, 2), y -> y.count(7),
            y -> y.ranked(1, 1), y -> y.between(0, 2000)};
        for (int i = 0; i < queries.length; i++) {
            LateThermometers x = knocked(90, -180, 180);
            x.append('h');
            CHECKS.changesNothing("query " + i, x, queries[i]);
        }
    }
}
