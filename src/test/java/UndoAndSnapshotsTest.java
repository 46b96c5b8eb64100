/** Promises 13 to 15: undo, keep, goBack. */
public final class UndoAndSnapshotsTest {
    private static final Checks CHECKS = new Checks();

    private static final Checks.Call[] UNDOABLE = {
        x -> x.thermometer(2, 3, -50, 4),
        x -> x.hour(1200),
        x -> x.hours(5, -90),
        x -> x.period(0, 4),
        x -> x.calibrate(0),
        x -> x.knock(1, 2500),
        x -> x.set(0, 50),
        x -> x.set(1, 1),
        x -> x.goBack(0),
        x -> {
            x.append('h');
            x.append('7');
            x.execute();
        }};

    public static void main(String[] args) {
        undoRestores();
        eachUndoableCallSavesOneState();
        sixStatesAreSaved();
        undoRefuses();
        keepTakesASnapshot();
        goBackRestores();
        goBackRefuses();
        aThermometerAfterGoBackIsNew();
        snapshotsAndSavedStatesAreNoPartOfTheState();
        CHECKS.finish("UndoAndSnapshotsTest");
    }

    /** Four thermometers with readings, strikes and one that is shut out; nothing saved beyond six states. */
    private static LateThermometers busy() {
        LateThermometers x = new LateThermometers();
        x.thermometer(0, 2, 10, 2);
        x.thermometer(1, 5, -20, 1);
        x.thermometer(1, 9, 0, 5);
        x.thermometer(3, 1, 0, 3);
        x.period(1, 2);
        x.set(0, 40);
        x.hours(4, 30);
        x.knock(2, -2000);
        x.hours(2, 0);
        x.knock(2, 3000);
        x.keep(0);
        x.hours(2, -15);
        return x;
    }

    private static void undoRestores() {
        for (int i = 0; i < UNDOABLE.length; i++) {
            LateThermometers x = busy();
            String before = Views.stateOf(x);
            UNDOABLE[i].on(x);
            CHECKS.same("undo() of " + i, x.undo(), 5);
            CHECKS.sameText("undone: " + i, Views.stateOf(x), before);
            x.undo();
            x.undo();
            CHECKS.same("undone thrice: " + i, x.count(0), 6);
            x.undo();
            x.undo();
            CHECKS.same("undone five times: " + i, x.count(0), 4);
        }
    }

    private static void eachUndoableCallSavesOneState() {
        for (int i = 0; i < UNDOABLE.length; i++) {
            LateThermometers x = busy();
            for (int undone = 0; undone < 6; undone++) {
                x.undo();
            }
            if (i == 4 || i == 5) {
                x.thermometer(0, 1, 0, 1);
                x.thermometer(0, 1, 0, 1);
                x.undo();
            }
            int saved = x.count(10);
            UNDOABLE[i].on(x);
            CHECKS.same("saved by " + i, x.count(10), saved + 1);
        }
        LateThermometers x = new LateThermometers();
        x.append('h');
        x.clearBuffer();
        x.firstError();
        x.keep(0);
        x.keep(1);
        x.ifStill(3, 0);
        x.meanError();
        x.between(0, 1);
        CHECKS.same("saved by the others", x.count(10), 0);
        x.period(0, 1);
        CHECKS.same("saved though nothing changes", x.count(10), 1);
        x.goBack(1);
        CHECKS.same("saved by goBack", x.count(10), 2);
    }

    private static void sixStatesAreSaved() {
        LateThermometers x = new LateThermometers();
        for (int hour = 1; hour <= 9; hour++) {
            x.hour(100 * hour);
            CHECKS.same("saved", x.count(10), Math.min(hour, 6));
        }
        for (int left = 5; left >= 0; left--) {
            CHECKS.same("undo()", x.undo(), left);
            CHECKS.same("the hour after it", x.count(0), 3 + left);
            CHECKS.same("the temperature after it", x.count(2), 100 * (3 + left));
        }
        CHECKS.refusesState("a seventh undo", x, LateThermometers::undo);
        x.hour(1);
        x.hour(2);
        CHECKS.same("undo() after new ones", x.undo(), 1);
        x.hour(3);
        CHECKS.same("undo()", x.undo(), 1);
        CHECKS.same("the hour", x.count(0), 4);
        CHECKS.same("undo()", x.undo(), 0);
        CHECKS.same("the hour", x.count(0), 3);
    }

    private static void undoRefuses() {
        LateThermometers x = new LateThermometers();
        CHECKS.refusesState("undo()", x, LateThermometers::undo);
        x.keep(0);
        CHECKS.refusesState("undo() after keep", x, LateThermometers::undo);
        x.goBack(0);
        CHECKS.same("undo() after goBack", x.undo(), 0);
        CHECKS.refusesState("undo() is not undone", x, LateThermometers::undo);
    }

    private static void keepTakesASnapshot() {
        LateThermometers twin = busy();
        String first = Views.stateOf(twin);
        twin.hours(3, 500);
        String second = Views.stateOf(twin);
        twin.hour(77);
        String third = Views.stateOf(twin);
        LateThermometers x = busy();
        CHECKS.same("keep(1)", x.keep(1), 8);
        CHECKS.same("keep saves no state", x.count(10), 6);
        x.hours(3, 500);
        CHECKS.same("keep(0)", x.keep(0), 11);
        x.calibrate(0);
        x.goBack(1);
        CHECKS.sameText("the slot 1", Views.stateOf(x), first);
        x.goBack(0);
        CHECKS.sameText("the slot 0", Views.stateOf(x), second);
        x.hour(77);
        CHECKS.same("keep(1) again", x.keep(1), 12);
        x.hour(78);
        x.goBack(1);
        CHECKS.sameText("the slot 1 is replaced", Views.stateOf(x), third);
        CHECKS.refusesArgument("keep(2)", new LateThermometers(), y -> y.keep(2));
        CHECKS.refusesArgument("keep(-1)", new LateThermometers(), y -> y.keep(-1));
    }

    private static void goBackRestores() {
        String later = Views.stateOf(busy());
        LateThermometers x = busy();
        CHECKS.same("goBack(0)", x.goBack(0), 6);
        String kept = Views.stateOf(x);
        CHECKS.same("the hour", x.count(0), 6);
        x.hours(9, 100);
        CHECKS.same("goBack(0) again", x.goBack(0), 6);
        CHECKS.sameText("it stays in its slot", Views.stateOf(x), kept);
        x.undo();
        x.undo();
        x.undo();
        CHECKS.sameText("undone", Views.stateOf(x), later);
    }

    private static void goBackRefuses() {
        LateThermometers x = new LateThermometers();
        x.keep(1);
        CHECKS.refusesArgument("goBack(2)", x, y -> y.goBack(2));
        CHECKS.refusesArgument("goBack(-1)", x, y -> y.goBack(-1));
        CHECKS.refusesState("goBack(0)", x, y -> y.goBack(0));
        CHECKS.same("goBack(1)", x.goBack(1), 0);
        CHECKS.refusesState("goBack(0) still", x, y -> y.goBack(0));
    }

    private static void aThermometerAfterGoBackIsNew() {
        LateThermometers x = new LateThermometers();
        x.thermometer(0, 1, 0, 1);
        x.keep(0);
        x.thermometer(3, 9, 100, 5);
        x.set(0, 10);
        x.set(1, 1);
        x.hour(1000);
        x.knock(1, 3000);
        x.hour(1000);
        CHECKS.same("the second one has a spike", x.ofThermometer(1, 8), 1);
        CHECKS.same("the second one is shut out", x.ofThermometer(1, 6), 1);
        x.goBack(0);
        CHECKS.same("one is left", x.count(1), 1);
        x.thermometer(2, 2, -5, 3);
        int[] due = {2, 2, -5, 3, 995, 0, 0, 0, 0, -999999};
        for (int what = 0; what < 10; what++) {
            CHECKS.same("the new one: " + what, x.ofThermometer(1, what), due[what]);
        }
        CHECKS.same("the new one's readings", x.reading(1, 0, 0), -999999);
    }

    private static void snapshotsAndSavedStatesAreNoPartOfTheState() {
        LateThermometers x = new LateThermometers();
        x.hour(1);
        x.keep(0);
        x.undo();
        CHECKS.same("undo leaves the snapshot", x.goBack(0), 1);
        x.keep(1);
        x.hour(2);
        x.goBack(0);
        CHECKS.same("goBack leaves the other snapshot", x.goBack(1), 1);
        CHECKS.same("the saved states go on", x.count(10), 4);
        x.append('h');
        x.undo();
        CHECKS.same("the buffer stays", x.count(11), 1);
    }
}
