/** Promises 1 to 8: a new object, thermometer, hour, hours, period, calibrate, knock, set. */
public final class ThermometersAndHoursTest {
    private static final int NONE = LateThermometers.NONE;
    private static final Checks CHECKS = new Checks();

    public static void main(String[] args) {
        newObject();
        thermometerIsAdded();
        thermometerRefuses();
        hourPasses();
        shownFollowsWithLag();
        hourRefuses();
        rowsAreReadByPeriod();
        sixReadingsAreKept();
        mendedTemperatures();
        mendedStaysNearTheTruth();
        spikesAreToldByTheMiddleOfTheOthers();
        withoutOthersStrikesStay();
        onlyWhoIsReadIsCompared();
        allAreComparedBeforeAnyIsShutOut();
        hoursPass();
        hoursRefuse();
        periodChanges();
        calibrateStartsAfresh();
        knockChangesWhatIsShown();
        setChangesSettings();
        CHECKS.finish("ThermometersAndHoursTest");
    }

    private static void newObject() {
        LateThermometers x = new LateThermometers();
        CHECKS.same("NONE", NONE, -999999);
        int[] due = {0, 0, 1000, 0, 0, NONE, NONE, NONE, 0, 0, 0, 0, 300, 2};
        for (int what = 0; what < due.length; what++) {
            CHECKS.same("new: count(" + what + ")", x.count(what), due[what]);
        }
        for (int row = 0; row < 4; row++) {
            CHECKS.same("new: period", x.row(row, 0), 1);
            CHECKS.same("new: thermometers", x.row(row, 1), 0);
            CHECKS.same("new: next", x.row(row, 2), 1);
            CHECKS.same("new: reads", x.row(row, 3), 0);
        }
        CHECKS.same("new: firstError()", x.firstError(), 0);
        CHECKS.sameDouble("new: meanError()", x.meanError(), 0.0);
        CHECKS.refusesState("new: undo()", x, LateThermometers::undo);
        CHECKS.refusesState("new: goBack(0)", x, y -> y.goBack(0));
        CHECKS.refusesState("new: goBack(1)", x, y -> y.goBack(1));
        LateThermometers other = new LateThermometers();
        other.hour(5);
        CHECKS.same("another object's hours are its own", x.count(0), 0);
    }

    private static void thermometerIsAdded() {
        LateThermometers x = new LateThermometers();
        x.hour(-250);
        CHECKS.same("thermometer(3, 9, -200, 5)", x.thermometer(3, 9, -200, 5), 0);
        CHECKS.same("thermometer(0, 1, 200, 1)", x.thermometer(0, 1, 200, 1), 1);
        int[][] due = {{3, 9, -200, 5, -450, 0, 0, 0, 0, NONE}, {0, 1, 200, 1, -50, 0, 0, 0, 0, NONE}};
        for (int thermometer = 0; thermometer < 2; thermometer++) {
            for (int what = 0; what < 10; what++) {
                CHECKS.same("added: ofThermometer(" + thermometer + ", " + what + ")", x.ofThermometer(thermometer, what), due[thermometer][what]);
            }
        }
        CHECKS.same("added: count(1)", x.count(1), 2);
        CHECKS.same("added: saved", x.count(10), 3);
        CHECKS.same("added: in row 3", x.row(3, 1), 1);
        x.undo();
        CHECKS.same("added and undone: count(1)", x.count(1), 1);
    }

    private static LateThermometers ten() {
        LateThermometers x = new LateThermometers();
        for (int number = 0; number < 10; number++) {
            CHECKS.same("number", x.thermometer(number % 4, 1, 0, 1), number);
        }
        return x;
    }

    private static void thermometerRefuses() {
        LateThermometers x = new LateThermometers();
        CHECKS.refusesRow("thermometer(-1, ..)", x, y -> y.thermometer(-1, 1, 0, 1));
        CHECKS.refusesRow("thermometer(4, ..)", x, y -> y.thermometer(4, 1, 0, 1));
        CHECKS.refusesRow("row before the rest", x, y -> y.thermometer(4, 0, 201, 6));
        CHECKS.refusesArgument("lag 0", x, y -> y.thermometer(0, 0, 0, 1));
        CHECKS.refusesArgument("lag 10", x, y -> y.thermometer(0, 10, 0, 1));
        LateThermometers other = new LateThermometers();
        CHECKS.refusesArgument("offset -201", other, y -> y.thermometer(0, 1, -201, 1));
        CHECKS.refusesArgument("offset 201", other, y -> y.thermometer(0, 1, 201, 1));
        CHECKS.refusesArgument("weight 0", other, y -> y.thermometer(0, 1, 0, 0));
        CHECKS.refusesArgument("weight 6", other, y -> y.thermometer(0, 1, 0, 6));
        CHECKS.refusesState("an eleventh one", ten(), y -> y.thermometer(0, 1, 0, 1));
        CHECKS.refusesArgument("an eleventh one with lag 0", ten(), y -> y.thermometer(0, 0, 0, 1));
        CHECKS.refusesRow("an eleventh one without a row", ten(), y -> y.thermometer(9, 0, 0, 1));
        CHECKS.same("the tenth is there", ten().ofThermometer(9, 0), 1);
    }

    private static void hourPasses() {
        LateThermometers x = new LateThermometers();
        CHECKS.same("hour without thermometers", x.hour(5000), 0);
        CHECKS.same("hour to -5000", x.hour(-5000), 0);
        CHECKS.same("the hour", x.count(0), 2);
        CHECKS.same("the temperature", x.count(2), -5000);
        CHECKS.same("reads without thermometers", x.row(2, 3), 2);
        x.thermometer(1, 2, 0, 1);
        x.thermometer(1, 2, 0, 1);
        x.thermometer(2, 2, 0, 1);
        CHECKS.same("hour with three", x.hour(0), 3);
        CHECKS.same("readings so far", x.count(8), 3);
        CHECKS.same("hour with three again", x.hour(0), 3);
        CHECKS.same("readings so far, again", x.count(8), 6);
        CHECKS.same("saved", x.count(10), 6);
        x.undo();
        CHECKS.same("readings so far, undone", x.count(8), 3);
        CHECKS.same("the hour, undone", x.count(0), 3);
    }

    private static void shownFollowsWithLag() {
        LateThermometers x = new LateThermometers();
        x.thermometer(0, 3, 100, 1);
        x.thermometer(0, 9, -7, 1);
        x.hour(1010);
        CHECKS.same("1100 + 10 / 3", x.ofThermometer(0, 4), 1103);
        CHECKS.same("993 + 10 / 9", x.ofThermometer(1, 4), 994);
        x.hour(990);
        CHECKS.same("1103 + (990 + 100 - 1103) / 3, toward zero", x.ofThermometer(0, 4), 1099);
        CHECKS.same("994 + (990 - 7 - 994) / 9, toward zero", x.ofThermometer(1, 4), 993);
        CHECKS.same("the value that was read", x.reading(0, 0, 1), 1099);
        CHECKS.same("the hour in which it was read", x.reading(0, 0, 0), 2);
    }

    private static void hourRefuses() {
        LateThermometers x = new LateThermometers();
        CHECKS.refusesArgument("hour(5001)", x, y -> y.hour(5001));
        CHECKS.refusesArgument("hour(-5001)", x, y -> y.hour(-5001));
        CHECKS.refusesArgument("hour(MIN)", x, y -> y.hour(Integer.MIN_VALUE));
    }

    private static void rowsAreReadByPeriod() {
        LateThermometers x = new LateThermometers();
        x.thermometer(1, 1, 0, 1);
        x.thermometer(3, 1, 0, 1);
        x.period(1, 2);
        x.period(3, 3);
        int[] due = {0, 1, 1, 1, 0, 2};
        for (int hour = 1; hour <= 6; hour++) {
            CHECKS.same("readings in the hour " + hour, x.hour(1000), due[hour - 1]);
        }
        CHECKS.same("reads of row 0", x.row(0, 3), 6);
        CHECKS.same("reads of row 1", x.row(1, 3), 3);
        CHECKS.same("reads of row 3", x.row(3, 3), 2);
        CHECKS.same("latest of 0", x.reading(0, 1, 0), 4);
        CHECKS.same("latest of 1", x.reading(1, 1, 0), 3);
    }

    private static void sixReadingsAreKept() {
        LateThermometers x = new LateThermometers();
        x.thermometer(0, 1, 0, 1);
        for (int hour = 1; hour <= 8; hour++) {
            x.hour(10 * hour);
            CHECKS.same("kept", x.ofThermometer(0, 7), Math.min(hour, 6));
        }
        for (int ago = 0; ago < 6; ago++) {
            CHECKS.same("hour of " + ago, x.reading(0, ago, 0), 8 - ago);
            CHECKS.same("value of " + ago, x.reading(0, ago, 1), 10 * (8 - ago));
        }
        CHECKS.same("the seventh", x.reading(0, 6, 0), NONE);
        CHECKS.same("readings so far", x.count(8), 8);
    }

    private static void mendedTemperatures() {
        LateThermometers x = new LateThermometers();
        x.thermometer(0, 4, 50, 1);
        CHECKS.same("without a reading", x.ofThermometer(0, 9), NONE);
        x.hour(1400);
        CHECKS.same("shown", x.ofThermometer(0, 4), 1150);
        CHECKS.same("with one reading", x.ofThermometer(0, 9), 1100);
        x.hour(1402);
        CHECKS.same("shown, after two", x.ofThermometer(0, 4), 1225);
        CHECKS.same("1225 + 75 * 3 - 50", x.ofThermometer(0, 9), 1400);
        x.period(0, 5);
        x.hours(3, -300);
        CHECKS.same("shown, falling", x.ofThermometer(0, 4), 1225 + (1102 + 50 - 1225) / 4 + (802 + 50 - 1207) / 4 + (502 + 50 - 1119) / 4);
        CHECKS.same("3 hours apart, toward zero", x.ofThermometer(0, 9), 978 + (978 - 1225) * 3 / 3 - 50);
        x.hours(5, 0);
        int shown = x.reading(0, 0, 1);
        CHECKS.same("5 hours apart", x.ofThermometer(0, 9), shown + (shown - 978) * 3 / 5 - 50);
    }

    private static void mendedStaysNearTheTruth() {
        LateThermometers x = new LateThermometers();
        for (int lag = 1; lag <= 9; lag++) {
            x.thermometer(lag % 4, lag, 20 * lag - 100, 1);
        }
        x.set(0, 2000);
        x.hour(1000);
        int truth = 1000;
        for (int hour = 0; hour < 45; hour++) {
            truth = Math.max(-5000, Math.min(5000, truth + (hour * 7919 % 1999) - 999));
            x.hour(truth);
            for (int number = 0; number < 9; number++) {
                int far = Math.abs(x.ofThermometer(number, 9) - truth);
                CHECKS.isTrue("lag " + (number + 1) + " is mended within the lag, not by " + far, far < number + 1);
            }
        }
    }

    /** Three of lag 1 show the truth at once; the fourth is knocked. */
    private static LateThermometers threeAndAKnockedOne(int lag) {
        LateThermometers x = new LateThermometers();
        for (int i = 0; i < 3; i++) {
            x.thermometer(0, 1, 0, 1);
        }
        x.thermometer(0, lag, 0, 1);
        x.hour(1000);
        return x;
    }

    private static void spikesAreToldByTheMiddleOfTheOthers() {
        LateThermometers x = threeAndAKnockedOne(2);
        x.set(0, 100);
        x.knock(3, 100);
        x.hour(1000);
        CHECKS.same("mended by 50 and 50 more", x.ofThermometer(3, 9), 1100);
        CHECKS.same("100 is not greater than 100", x.ofThermometer(3, 8), 0);
        x = threeAndAKnockedOne(2);
        x.set(0, 100);
        x.knock(3, -102);
        x.hour(1000);
        CHECKS.same("mended, below", x.ofThermometer(3, 9), 898);
        CHECKS.same("a spike below", x.ofThermometer(3, 8), 1);
        CHECKS.same("a strike", x.ofThermometer(3, 5), 1);
        CHECKS.same("spikes so far", x.count(9), 1);
        CHECKS.same("not shut out yet", x.ofThermometer(3, 6), 0);
        CHECKS.same("the others have none", x.ofThermometer(0, 8) + x.ofThermometer(1, 8) + x.ofThermometer(2, 8), 0);
        LateThermometers y = threeAndAKnockedOne(2);
        y.set(0, 100);
        y.knock(3, -102);
        y.hour(1000);
        y.hour(1000);
        CHECKS.same("no spike then", y.ofThermometer(3, 8), 1);
        CHECKS.same("the strikes become 0", y.ofThermometer(3, 5), 0);
        x.knock(3, 3000);
        x.hour(1000);
        CHECKS.same("a second spike", x.ofThermometer(3, 8), 2);
        CHECKS.same("a second strike", x.ofThermometer(3, 5), 2);
        CHECKS.same("shut out", x.count(4), 8);
        CHECKS.same("asked", x.count(3), 7);
        CHECKS.same("it is not in the mean", x.count(5), 1000);
        CHECKS.same("who is shut out still gets readings", x.hour(1000), 4);
        CHECKS.same("its readings", x.ofThermometer(3, 7), 4);
        CHECKS.same("it is not compared any more", x.ofThermometer(3, 5), 2);
        CHECKS.same("it has no more spikes", x.ofThermometer(3, 8), 2);
        CHECKS.same("calibrate", x.calibrate(3), 2);
        CHECKS.same("shut out after it", x.count(4), 0);
        x.hour(1000);
        CHECKS.same("asked again", x.count(3), 15);
    }

    private static void withoutOthersStrikesStay() {
        LateThermometers x = new LateThermometers();
        x.thermometer(0, 5, 0, 1);
        x.thermometer(0, 5, 0, 1);
        x.set(0, 10);
        x.set(1, 3);
        x.hour(1000);
        x.knock(0, 500);
        x.hour(1000);
        CHECKS.same("two differ from each other: the first", x.ofThermometer(0, 5), 1);
        CHECKS.same("two differ from each other: the second", x.ofThermometer(1, 5), 1);
        x.calibrate(1);
        x.period(0, 6);
        x.hours(4, 0);
        CHECKS.same("one that is asked has no others", x.count(3), 3);
        x = new LateThermometers();
        x.thermometer(0, 5, 0, 1);
        x.thermometer(1, 5, 0, 1);
        x.set(0, 10);
        x.set(1, 3);
        x.hour(1000);
        x.knock(0, 500);
        x.hour(1000);
        x.calibrate(1);
        x.period(1, 6);
        x.knock(0, 3000);
        x.hour(1000);
        CHECKS.same("alone: its strikes stay", x.ofThermometer(0, 5), 1);
        CHECKS.same("alone: no spike", x.count(9), 2);
        x.set(1, 1);
        x.hour(1000);
        CHECKS.same("alone: nobody is shut out", x.count(4), 0);
    }

    private static void onlyWhoIsReadIsCompared() {
        LateThermometers x = new LateThermometers();
        x.thermometer(0, 1, 0, 1);
        x.thermometer(1, 1, 0, 1);
        x.thermometer(1, 1, 0, 1);
        x.set(0, 10);
        x.hour(1000);
        x.period(1, 3);
        x.hour(1500);
        CHECKS.same("the one that is read differs from the two others", x.ofThermometer(0, 8), 1);
        CHECKS.same("the others are not compared", x.ofThermometer(1, 8) + x.ofThermometer(2, 8), 0);
        x.hour(1500);
        CHECKS.same("now they agree: strikes", x.ofThermometer(0, 5), 0);
        x.period(0, 5);
        x.set(1, 1);
        x.hour(-1500);
        CHECKS.same("only a row without thermometers is read: spikes", x.count(9), 1);
        x.hour(-1500);
        CHECKS.same("hour 5: 0 is compared", x.ofThermometer(0, 8), 2);
        CHECKS.same("hour 5: 0 is shut out", x.count(4), 1);
        x.hour(-1500);
        CHECKS.same("hour 6: the two agree", x.count(9), 2);
    }

    private static void allAreComparedBeforeAnyIsShutOut() {
        LateThermometers x = new LateThermometers();
        x.thermometer(0, 2, 0, 1);
        x.thermometer(0, 2, 0, 1);
        x.set(1, 1);
        x.hour(1000);
        x.knock(0, 3000);
        x.hour(1000);
        CHECKS.same("both have a spike", x.count(9), 2);
        CHECKS.same("both are shut out", x.count(4), 3);
        CHECKS.same("no mean without any that is asked", x.count(5), NONE);
        CHECKS.same("no slope", x.count(6), NONE);
        CHECKS.same("no middle", x.count(7), NONE);
        CHECKS.same("still mended", x.between(-10000, 10000), 2);
    }

    private static void hoursPass() {
        LateThermometers x = new LateThermometers();
        x.thermometer(0, 1, 0, 1);
        CHECKS.same("hours(3, 100)", x.hours(3, 100), 1300);
        CHECKS.same("the second of them", x.reading(0, 1, 1), 1200);
        CHECKS.same("the hour", x.count(0), 3);
        CHECKS.same("saved as one", x.count(10), 2);
        CHECKS.same("slope of the last hour", x.count(6), 100);
        CHECKS.same("hours(24, 500)", x.hours(24, 500), 5000);
        CHECKS.same("it stays at 5000", x.reading(0, 3, 1), 5000);
        CHECKS.same("hours(24, -500)", x.hours(24, -500), -5000);
        CHECKS.same("it stays at -5000", x.reading(0, 3, 1), -5000);
        CHECKS.same("hours(1, 7)", x.hours(1, 7), -4993);
        CHECKS.same("hours(2, -4)", x.hours(2, -4), -5000);
        x.undo();
        CHECKS.same("one undo", x.count(0), 52);
        CHECKS.same("one undo: the temperature", x.count(2), -4993);
    }

    private static void hoursRefuse() {
        LateThermometers x = new LateThermometers();
        CHECKS.refusesArgument("hours(0, 0)", x, y -> y.hours(0, 0));
        CHECKS.refusesArgument("hours(25, 0)", x, y -> y.hours(25, 0));
        CHECKS.refusesArgument("hours(1, 501)", x, y -> y.hours(1, 501));
        CHECKS.refusesArgument("hours(1, -501)", x, y -> y.hours(1, -501));
        CHECKS.refusesArgument("hours(MIN, 0)", x, y -> y.hours(Integer.MIN_VALUE, 0));
    }

    private static void periodChanges() {
        LateThermometers x = new LateThermometers();
        CHECKS.same("period(2, 6)", x.period(2, 6), 1);
        CHECKS.same("period(2, 4)", x.period(2, 4), 6);
        CHECKS.same("period(2, 4) again", x.period(2, 4), 4);
        CHECKS.same("the others stay", x.row(0, 0) + x.row(1, 0) + x.row(3, 0), 3);
        CHECKS.same("saved even if nothing changes", x.count(10), 3);
        x.undo();
        x.undo();
        CHECKS.same("undone", x.row(2, 0), 6);
        CHECKS.refusesRow("period(-1, 1)", x, y -> y.period(-1, 1));
        CHECKS.refusesRow("period(4, 0)", x, y -> y.period(4, 0));
        CHECKS.refusesArgument("period(0, 0)", x, y -> y.period(0, 0));
        CHECKS.refusesArgument("period(0, 7)", x, y -> y.period(0, 7));
    }

    private static void calibrateStartsAfresh() {
        LateThermometers x = threeAndAKnockedOne(4);
        x.thermometer(0, 9, -33, 2);
        x.set(0, 10);
        x.hours(3, 400);
        x.knock(3, 2000);
        x.hour(1000);
        int strikes = x.ofThermometer(3, 5);
        int spikes = x.ofThermometer(3, 8);
        int readings = x.count(8);
        CHECKS.isTrue("it has strikes", strikes > 0);
        CHECKS.same("calibrate(3)", x.calibrate(3), strikes);
        int[] due = {0, 4, 0, 1, 1000, 0, 0, 0, spikes, NONE};
        for (int what = 0; what < 10; what++) {
            CHECKS.same("calibrated: ofThermometer(3, " + what + ")", x.ofThermometer(3, what), due[what]);
        }
        CHECKS.same("its readings are dropped", x.reading(3, 0, 0), NONE);
        CHECKS.same("readings so far stay", x.count(8), readings);
        x.calibrate(4);
        CHECKS.same("with its offset", x.ofThermometer(4, 4), 967);
        CHECKS.same("calibrate again", x.calibrate(3), 0);
        x.undo();
        x.undo();
        x.undo();
        CHECKS.same("undone: strikes", x.ofThermometer(3, 5), strikes);
        x.hour(1200);
        CHECKS.same("other thermometers keep theirs", x.ofThermometer(0, 7), 6);
        CHECKS.refusesRow("calibrate(10)", ten(), y -> y.calibrate(10));
        CHECKS.refusesRow("calibrate(4)", threeAndAKnockedOne(9), y -> y.calibrate(4));
        CHECKS.refusesRow("calibrate(-1)", threeAndAKnockedOne(9), y -> y.calibrate(-1));
        CHECKS.refusesRow("calibrate(MAX)", threeAndAKnockedOne(9), y -> y.calibrate(Integer.MAX_VALUE));
    }

    private static LateThermometers knockedTimes(int times, int change) {
        LateThermometers x = new LateThermometers();
        x.thermometer(0, 2, 0, 1);
        for (int i = 0; i < times; i++) {
            x.knock(0, change);
        }
        return x;
    }

    private static void knockChangesWhatIsShown() {
        LateThermometers x = new LateThermometers();
        CHECKS.refusesRow("knock(0, 1) without any", x, y -> y.knock(0, 1));
        x.thermometer(0, 2, 0, 1);
        CHECKS.same("knock(0, -3000)", x.knock(0, -3000), 98000);
        CHECKS.same("it shows", x.ofThermometer(0, 4), -2000);
        CHECKS.same("knock(0, 3000)", x.knock(0, 3000), 101000);
        CHECKS.same("knock(0, 0)", x.knock(0, 0), 101000);
        CHECKS.same("saved", x.count(10), 4);
        x.undo();
        x.undo();
        CHECKS.same("undone", x.ofThermometer(0, 4), -2000);
        CHECKS.refusesRow("knock(1, 3001)", knockedTimes(1, 1), y -> y.knock(1, 3001));
        CHECKS.refusesRow("knock(-1, 0)", knockedTimes(1, 1), y -> y.knock(-1, 0));
        CHECKS.refusesArgument("knock(0, 3001)", knockedTimes(1, 1), y -> y.knock(0, 3001));
        CHECKS.refusesArgument("knock(0, -3001)", knockedTimes(1, 1), y -> y.knock(0, -3001));
        LateThermometers low = knockedTimes(7, -3000);
        CHECKS.same("as low as it goes", low.ofThermometer(0, 4), -20000);
        CHECKS.refusesState("lower", low, y -> y.knock(0, -1));
        CHECKS.refusesArgument("far lower", low, y -> y.knock(0, -3001));
        LateThermometers high = knockedTimes(6, 3000);
        CHECKS.same("the last bit", high.knock(0, 1000), 120000);
        CHECKS.refusesState("higher", high, y -> y.knock(0, 1));
    }

    private static void setChangesSettings() {
        LateThermometers x = new LateThermometers();
        CHECKS.same("set(0, 10)", x.set(0, 10), 300);
        CHECKS.same("set(0, 2000)", x.set(0, 2000), 10);
        CHECKS.same("set(1, 5)", x.set(1, 5), 2);
        CHECKS.same("set(1, 1)", x.set(1, 1), 5);
        CHECKS.same("count(12)", x.count(12), 2000);
        CHECKS.same("count(13)", x.count(13), 1);
        x.undo();
        CHECKS.same("undone", x.count(13), 5);
        CHECKS.refusesRow("set(2, 0)", x, y -> y.set(2, 0));
        CHECKS.refusesRow("set(-1, 100)", x, y -> y.set(-1, 100));
        CHECKS.refusesArgument("set(0, 9)", x, y -> y.set(0, 9));
        CHECKS.refusesArgument("set(0, 2001)", x, y -> y.set(0, 2001));
        CHECKS.refusesArgument("set(1, 0)", x, y -> y.set(1, 0));
        CHECKS.refusesArgument("set(1, 6)", x, y -> y.set(1, 6));
        LateThermometers z = threeAndAKnockedOne(9);
        z.set(0, 10);
        z.set(1, 5);
        z.knock(3, 3000);
        z.hour(1000);
        int strikes = z.ofThermometer(3, 5);
        CHECKS.same("a strike before", strikes, 1);
        z.set(1, 1);
        CHECKS.same("strikes stay", z.ofThermometer(3, 5), strikes);
        CHECKS.same("nobody is shut out by it", z.count(4), 0);
    }
}
