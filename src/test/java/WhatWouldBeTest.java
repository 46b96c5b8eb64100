/** Promises 22 to 26: ifLag, bestLag, ifStill, stillIn, meanError. */
public final class WhatWouldBeTest {
    private static final int NONE = LateThermometers.NONE;
    private static final Checks CHECKS = new Checks();

    public static void main(String[] args) {
        ifLagTells();
        bestLagIsFound();
        ifStillTells();
        ifStillShutsOut();
        stillInTells();
        meanErrorTells();
        theyChangeNothing();
        CHECKS.finish("WhatWouldBeTest");
    }

    /** One thermometer with the number 0. */
    private static LateThermometers one() {
        LateThermometers x = new LateThermometers();
        x.thermometer(0, 4, 10, 1);
        x.hour(1400);
        return x;
    }

    private static void ifLagTells() {
        LateThermometers x = new LateThermometers();
        x.thermometer(0, 4, 10, 1);
        CHECKS.same("without a reading", x.ifLag(0, 1), NONE);
        x.hour(1400);
        CHECKS.same("with one reading", x.ifLag(0, 9), 1100);
        x.period(0, 3);
        x.hours(2, 0);
        int rise = x.reading(0, 0, 1) - 1110;
        for (int lag = 1; lag <= 9; lag++) {
            CHECKS.same("ifLag(0, " + lag + ")", x.ifLag(0, lag), 1110 + rise + rise * (lag - 1) / 2 - 10);
        }
        CHECKS.same("as it is", x.ifLag(0, 4), x.ofThermometer(0, 9));
        CHECKS.refusesRow("ifLag(1, 0)", one(), y -> y.ifLag(1, 0));
        CHECKS.refusesRow("ifLag(-1, 1)", one(), y -> y.ifLag(-1, 1));
        CHECKS.refusesArgument("ifLag(0, 0)", one(), y -> y.ifLag(0, 0));
        CHECKS.refusesArgument("ifLag(0, 10)", one(), y -> y.ifLag(0, 10));
    }

    private static void bestLagIsFound() {
        LateThermometers x = new LateThermometers();
        x.thermometer(0, 5, 0, 1);
        x.thermometer(0, 1, 0, 1);
        x.thermometer(0, 9, -50, 1);
        CHECKS.same("without a reading", x.bestLag(0), NONE);
        x.hour(1500);
        CHECKS.same("with one reading all are alike", x.bestLag(0), 1);
        x.hour(1500);
        CHECKS.same("its own lag", x.bestLag(0), 5);
        CHECKS.same("nothing changes any more: the least one", x.bestLag(1), 1);
        CHECKS.same("its own lag, with an offset", x.bestLag(2), 9);
        x.knock(0, 3000);
        x.hour(1500);
        CHECKS.same("it rises away: the least one", x.bestLag(0), 1);
        LateThermometers y = new LateThermometers();
        y.thermometer(0, 1, 0, 1);
        y.hour(1000);
        y.hour(1010);
        y.period(0, 6);
        y.hour(1015);
        CHECKS.same("1010 and 1020 are as near to 1015", y.bestLag(0), 1);
        int[] truths = {-5000, 1015, 1016, 1025, 1026, 1035, 1036, 1045, 1046, 1055, 1056, 1065, 1066, 1075, 1076, 1085, 1086, 5000};
        y.undo();
        y.keep(0);
        for (int i = 0; i < truths.length; i++) {
            y.goBack(0);
            y.hour(truths[i]);
            CHECKS.same("nearest to " + truths[i], y.bestLag(0), 1 + i / 2);
        }
        CHECKS.refusesRow("bestLag(1)", y, z -> z.bestLag(1));
        CHECKS.refusesRow("bestLag(-1)", y, z -> z.bestLag(-1));
    }

    private static void ifStillTells() {
        LateThermometers x = new LateThermometers();
        CHECKS.same("no mean without thermometers", x.ifStill(1, 0), NONE);
        for (int what = 1; what <= 3; what++) {
            CHECKS.same("nothing without thermometers", x.ifStill(48, what), 0);
        }
        x.thermometer(0, 4, 100, 1);
        x.thermometer(1, 2, 0, 3);
        x.period(1, 5);
        x.knock(0, 800);
        x.knock(1, -64);
        CHECKS.same("far off in 1", x.ifStill(1, 3), 600);
        CHECKS.same("far off in 2", x.ifStill(2, 3), 450);
        CHECKS.same("mean in 1: of one alone", x.ifStill(1, 0), 1600);
        CHECKS.same("mean in 2: mended", x.ifStill(2, 0), 1550 - 150 * 3 - 100);
        CHECKS.same("asked in 5, both", x.ifStill(5, 0), meanInFive(x));
        CHECKS.same("far off in 48", x.ifStill(48, 3), 3);
        LateThermometers low = new LateThermometers();
        low.thermometer(0, 9, 50, 1);
        low.knock(0, -900);
        CHECKS.same("far off below", low.ifStill(1, 3), 800);
        CHECKS.refusesArgument("ifStill(0, 0)", one(), y -> y.ifStill(0, 0));
        CHECKS.refusesArgument("ifStill(49, 0)", one(), y -> y.ifStill(49, 0));
        CHECKS.refusesArgument("ifStill(1, 4)", one(), y -> y.ifStill(1, 4));
        CHECKS.refusesArgument("ifStill(1, -1)", one(), y -> y.ifStill(1, -1));
        CHECKS.refusesArgument("ifStill(MIN, 0)", one(), y -> y.ifStill(Integer.MIN_VALUE, 0));
    }

    private static int meanInFive(LateThermometers x) {
        x.hours(5, 0);
        int mean = x.count(5);
        CHECKS.same("both are asked", x.count(3), 3);
        x.undo();
        return mean;
    }

    private static void ifStillShutsOut() {
        LateThermometers x = new LateThermometers();
        x.thermometer(0, 1, 0, 1);
        x.thermometer(0, 1, 0, 1);
        x.thermometer(2, 9, 0, 1);
        x.set(0, 10);
        x.set(1, 1);
        x.hour(1000);
        x.period(2, 4);
        x.knock(2, 3000);
        CHECKS.same("spikes in 2", x.ifStill(2, 2), 0);
        CHECKS.same("shut out in 2", x.ifStill(2, 1), 0);
        CHECKS.same("spikes in 3: it is read", x.ifStill(3, 2), 1);
        CHECKS.same("shut out in 3", x.ifStill(3, 1), 4);
        CHECKS.same("the mean without it", x.ifStill(3, 0), 1000);
        x.hours(3, 0);
        CHECKS.same("shut out", x.count(4), 4);
        CHECKS.same("no more spikes in 48", x.ifStill(48, 2), 0);
        CHECKS.same("still shut out in 48", x.ifStill(48, 1), 4);
        CHECKS.same("spikes so far stay", x.count(9), 1);
    }

    private static void stillInTells() {
        CHECKS.refusesRow("stillIn(0) without any", new LateThermometers(), y -> y.stillIn(0));
        LateThermometers x = new LateThermometers();
        x.thermometer(0, 1, 30, 1);
        x.thermometer(0, 4, 0, 1);
        x.thermometer(0, 9, 0, 1);
        CHECKS.same("it does so now", x.stillIn(0), 0);
        x.knock(0, 1);
        CHECKS.same("lag 1", x.stillIn(0), 1);
        x.knock(1, 3);
        CHECKS.same("3 / 4 is 0", x.stillIn(1), 0);
        x.knock(1, 1);
        CHECKS.same("4 / 4 is 1", x.stillIn(1), 1);
        x.knock(1, -11);
        CHECKS.same("-7 / 4 is -1: -6, -5, -4, -3", x.stillIn(1), 4);
        x.knock(2, -3000);
        int hours = x.stillIn(2);
        x.hours(24, 0);
        CHECKS.same("24 hours later", x.stillIn(2), hours - 24);
        for (int i = 25; i < hours; i++) {
            x.hour(1000);
        }
        int before = x.ofThermometer(2, 4);
        CHECKS.same("an hour before", x.stillIn(2), 1);
        x.hour(1000);
        int then = x.ofThermometer(2, 4);
        CHECKS.same("then", x.stillIn(2), 0);
        CHECKS.isTrue("it changes in the last hour", then != before);
        x.hour(1000);
        CHECKS.same("and not any more", x.ofThermometer(2, 4), then);
        CHECKS.refusesRow("stillIn(1)", one(), y -> y.stillIn(1));
        CHECKS.refusesRow("stillIn(-1)", one(), y -> y.stillIn(-1));
        farthest();
    }

    private static void farthest() {
        LateThermometers x = new LateThermometers();
        x.thermometer(0, 9, -200, 1);
        for (int i = 0; i < 6; i++) {
            x.knock(0, 3000);
        }
        x.knock(0, 1200);
        x.hour(-5000);
        int hours = x.stillIn(0);
        int passed = 0;
        int before = x.ofThermometer(0, 4);
        for (int i = 0; i < 200; i++) {
            x.hour(-5000);
            int after = x.ofThermometer(0, 4);
            if (after != before) {
                passed = i + 1;
            }
            before = after;
        }
        CHECKS.same("from near 20000 to -5200", hours, passed);
    }

    private static void meanErrorTells() {
        LateThermometers x = new LateThermometers();
        CHECKS.sameDouble("without thermometers", x.meanError(), 0.0);
        x.thermometer(0, 9, 5, 5);
        x.thermometer(0, 9, 0, 1);
        x.thermometer(0, 1, 0, 1);
        CHECKS.sameDouble("without readings", x.meanError(), 0.0);
        x.knock(0, 900);
        x.knock(1, -450);
        x.hour(1000);
        CHECKS.sameDouble("800, 400 and 0", x.meanError(), 400.0);
        x.calibrate(2);
        CHECKS.sameDouble("800 and 400", x.meanError(), 600.0);
        x.undo();
        x.undo();
        x.knock(0, 9);
        x.hour(1000);
        CHECKS.sameDouble("808, 400 and 0", x.meanError(), 1208.0 / 3.0);
        LateThermometers y = new LateThermometers();
        y.thermometer(0, 1, 0, 1);
        y.thermometer(0, 9, 0, 1);
        y.set(1, 1);
        y.hour(1000);
        y.knock(1, 900);
        y.hour(1000);
        CHECKS.same("both are shut out", y.count(4), 3);
        CHECKS.sameDouble("they count", y.meanError(), (800 * 9 + 0) / 2.0);
    }

    /** Two thermometers with readings, the second one knocked; a snapshot, and a text that goes on. */
    private static LateThermometers two() {
        LateThermometers x = new LateThermometers();
        x.thermometer(0, 3, 20, 1);
        x.thermometer(1, 8, 20, 1);
        x.set(0, 10);
        x.hours(3, 200);
        x.knock(1, 999);
        x.append('h');
        x.keep(0);
        return x;
    }

    private static void theyChangeNothing() {
        CHECKS.changesNothing("ifLag", two(), y -> y.ifLag(0, 8));
        CHECKS.changesNothing("bestLag", two(), y -> y.bestLag(1));
        CHECKS.changesNothing("ifStill", two(), y -> y.ifStill(48, 2));
        CHECKS.changesNothing("stillIn", two(), y -> y.stillIn(1));
        CHECKS.changesNothing("meanError", two(), LateThermometers::meanError);
        LateThermometers x = two();
        String before = Views.stateOf(x);
        x.hour(0);
        x.ifStill(9, 0);
        x.undo();
        CHECKS.sameText("undo after ifStill", Views.stateOf(x), before);
        x.goBack(0);
        CHECKS.sameText("goBack after ifStill", Views.stateOf(x), before);
    }
}
