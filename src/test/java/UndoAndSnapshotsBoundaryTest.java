/** The boundary cases of the promises 13 to 15, and of the saved states and the snapshots: undo, keep, goBack. */
public final class UndoAndSnapshotsBoundaryTest {
    private static final Sentences SENTENCES = new Sentences("UndoAndSnapshotsBoundaryTest");

    public static void main(String[] args) {
        undoableCalls();
        callsThatChangeNothing();
        callsThatSaveNothing();
        refusedCallsSaveNothing();
        sixStates();
        undo();
        wholeState();
        keep();
        goBack();
        whoIsGone();
        goBackRefuses();
        noPartOfTheState();
        SENTENCES.finish();
    }

    private static void undoableCalls() {
        SENTENCES.test("Undoable: thermometer", "thermometer 1 2 3 4", "count 10 = 1", "undo = 0", "count 1 = 0", "row 1 1 = 0");
        SENTENCES.test("Undoable: hour", "two", "hour 1090", "count 10 = 3", "undo = 2", "count 0 = 0", "count 2 = 1000", "count 8 = 0",
            "row 0 3 = 0", "ofThermometer 1 4 = 1000", "ofThermometer 1 7 = 0");
        SENTENCES.test("Undoable: hours", "two", "hours 24 -5", "count 10 = 3", "undo = 2", "count 0 = 0", "count 2 = 1000",
            "ofThermometer 0 4 = 1000", "reading 0 0 0 = NONE");
        SENTENCES.test("Undoable: period", "period 2 6", "count 10 = 1", "undo = 0", "row 2 0 = 1", "row 2 2 = 1");
        SENTENCES.test("Undoable: calibrate", "two", "set 1 1", "knock 1 338", "hour 1000", "calibrate 1", "count 10 = 6", "undo = 5",
            "ofThermometer 1 4 = 1301", "ofThermometer 1 5 = 1", "ofThermometer 1 6 = 1", "ofThermometer 1 7 = 1", "reading 1 0 1 = 1301");
        SENTENCES.test("Undoable: knock", "two", "knock 0 -7", "count 10 = 3", "undo = 2", "ofThermometer 0 4 = 1000");
        SENTENCES.test("Undoable: set", "set 0 10", "set 1 1", "count 10 = 2", "undo = 1", "count 13 = 2", "count 12 = 10", "undo = 0",
            "count 12 = 300");
        SENTENCES.test("Undoable: execute", "write t0,1;h7;p3/3;c0", "execute = 4", "count 10 = 1", "undo = 0", "count 0 = 0", "count 1 = 0",
            "row 3 0 = 1");
        SENTENCES.test("Undoable: goBack", "keep 0", "hour 7", "goBack 0 = 0", "count 10 = 2", "undo = 1", "count 0 = 1", "count 2 = 7",
            "undo = 0", "count 0 = 0");
    }

    private static void callsThatChangeNothing() {
        SENTENCES.test("saves the state, even if nothing changes: period", "period 0 1 = 1", "count 10 = 1", "undo = 0");
        SENTENCES.test("saves the state, even if nothing changes: calibrate", "two", "calibrate 1 = 0", "count 10 = 3", "undo = 2");
        SENTENCES.test("saves the state, even if nothing changes: knock", "two", "knock 1 0 = 101000", "count 10 = 3", "undo = 2");
        SENTENCES.test("saves the state, even if nothing changes: set", "set 0 300", "count 10 = 1", "set 1 2", "count 10 = 2", "undo = 1",
            "undo = 0");
        SENTENCES.test("saves the state, even if nothing changes: execute", "write p0/1", "execute = 1", "count 10 = 1", "write c0",
            "execute = 0", "count 10 = 2", "undo = 1", "undo = 0");
        SENTENCES.test("saves the state, even if nothing changes: goBack", "keep 1", "goBack 1 = 0", "count 10 = 1", "goBack 1 = 0",
            "count 10 = 2", "undo = 1");
    }

    private static void callsThatSaveNothing() {
        SENTENCES.test("Each method that is marked \"Undoable\" saves the state: no other of those that change something", "append 104",
            "clearBuffer", "keep 0", "keep 1", "count 10 = 0", "hour 5", "count 10 = 1", "undo = 0", "count 10 = 0");
        SENTENCES.changeNothing("Each method that is marked \"Undoable\" saves the state: no query", "firstError", "ofThermometer 0 9",
            "reading 0 0 1", "row 0 2", "count 10", "ranked 0 0", "between 0 1000", "ifLag 0 9", "bestLag 0", "ifStill 48 0", "stillIn 0",
            "meanError");
    }

    private static void refusedCallsSaveNothing() {
        SENTENCES.test("if it does not throw an exception: each refused call saves nothing", """
            ten
            6 x undo
            count 10 = 0
            6 x thermometer 0 1 0 1
            6 x undo
            thermometer 4 1 0 1 ! IndexOutOfBounds
            hour 5001 ! IllegalArgument
            hours 25 0 ! IllegalArgument
            period 0 7 ! IllegalArgument
            calibrate 4 ! IndexOutOfBounds
            knock 0 3001 ! IllegalArgument
            set 0 9 ! IllegalArgument
            execute ! IllegalArgument
            goBack 0 ! IllegalState
            goBack 2 ! IllegalArgument
            count 10 = 0
            undo ! IllegalState
            """);
    }

    private static void sixStates() {
        SENTENCES.test("At most 6 states are saved: five", "5 x hour 1", "count 10 = 5", "undo = 4", "3 x undo", "undo = 0", "count 0 = 0");
        SENTENCES.test("At most 6 states are saved: six", "6 x hour 1", "count 10 = 6", "undo = 5", "4 x undo", "undo = 0", "count 0 = 0",
            "undo ! IllegalState");
        SENTENCES.test("When one more is saved, the oldest one is dropped: seven", """
            hour 1
            hour 2
            hour 3
            hour 4
            hour 5
            hour 6
            hour 7
            count 10 = 6
            undo = 5
            count 2 = 6
            undo = 4
            count 2 = 5
            undo = 3
            undo = 2
            undo = 1
            undo = 0
            count 0 = 1
            count 2 = 1
            undo ! IllegalState
            """);
        SENTENCES.test("When one more is saved, the oldest one is dropped: thirteen", "13 x hour 1", "count 10 = 6", "5 x undo",
            "count 0 = 8", "undo = 0", "count 0 = 7", "undo ! IllegalState");
        SENTENCES.test("When one more is saved, the oldest one is dropped: after some were undone", """
            8 x hour 1
            undo = 5
            undo = 4
            count 0 = 6
            hours 2 0
            hours 3 0
            count 10 = 6
            hours 4 0
            count 10 = 6
            undo = 5
            count 0 = 11
            undo = 4
            undo = 3
            count 0 = 6
            undo = 2
            undo = 1
            undo = 0
            count 0 = 3
            undo ! IllegalState
            """);
    }

    private static void undo() {
        SENTENCES.test("Throws IllegalStateException if no state is saved: on a new object", "undo ! IllegalState");
        SENTENCES.test("Throws IllegalStateException if no state is saved: after calls that save none", "keep 0", "write h5", "undo ! IllegalState");
        SENTENCES.test("Throws IllegalStateException if no state is saved: after the last one", "busy", "6 x undo", "undo ! IllegalState",
            "count 10 = 0", "count 11 = 7");
        SENTENCES.test("Returns the number of saved states that are left: 0 after one", "hour 1", "undo = 0");
        SENTENCES.test("Restores the state that was saved last, and removes it: undo is not undone", "hour 1", "hour 2", "undo = 1",
            "count 2 = 1", "undo = 0", "count 2 = 1000", "undo ! IllegalState");
    }

    private static void wholeState() {
        String change = """
            3 x thermometer 0 1 0 1
            thermometer 1 9 50 5
            set 1 3
            hours 3 20
            knock 3 -2000
            period 1 2
            hour 1100
            """;
        String due = """
            count 0 = 4
            count 1 = 4
            count 2 = 1100
            count 3 = 15
            count 4 = 0
            count 5 = -8900
            count 6 = -9960
            count 7 = 1100
            count 8 = 16
            count 9 = 1
            count 12 = 300
            count 13 = 3
            row 0 0 = 1
            row 0 3 = 4
            row 1 0 = 2
            row 1 1 = 1
            row 1 2 = 2
            ofThermometer 3 4 = -706
            ofThermometer 3 5 = 1
            ofThermometer 3 6 = 0
            ofThermometer 3 7 = 4
            ofThermometer 3 8 = 1
            ofThermometer 3 9 = -14900
            reading 3 1 1 = 1062
            """;
        String more = """
            write t2,3;t3,4*5;h-7;p1/6;p0/4;h-9;h0;c0
            execute = 8
            """;
        SENTENCES.test("The state consists of everything: a call is undone", change, due, more, "undo = 5", due);
        SENTENCES.test("The state consists of everything: a snapshot", change, "keep 1 = 4", more, "goBack 1 = 4", due);
        SENTENCES.test("The state consists of everything: settings, strikes, and who is shut out", change, "keep 0", "set 0 2000", "set 1 1",
            "period 1 1", "knock 3 3000", "hour 5", "calibrate 3", "goBack 0 = 4", due);
    }

    private static void keep() {
        SENTENCES.test("slot: 0 or 1: just inside", "keep 0 = 0", "hour 5", "keep 1 = 1", "goBack 0 = 0", "goBack 1 = 1");
        SENTENCES.refuses("Throws IllegalArgumentException if there is no such slot: keep", "IllegalArgument", "keep -1", "keep 2", "keep MIN",
            "keep MAX");
        SENTENCES.test("Returns the number of the hour: the last one", "late", "keep 0 = 9999");
        SENTENCES.test("replaces the one in the slot: a full slot, and not the other one", "keep 0", "keep 1", "hour 5", "keep 0 = 1", "hour 6",
            "goBack 1 = 0", "goBack 0 = 1", "count 2 = 5");
        SENTENCES.test("Takes a snapshot of the state: later calls do not change it", "two", "keep 0 = 0", "hours 5 50", "knock 1 7",
            "calibrate 0", "goBack 0 = 0", "ofThermometer 0 4 = 1000", "ofThermometer 1 4 = 1000", "ofThermometer 1 7 = 0", "count 8 = 0");
    }

    private static void goBack() {
        SENTENCES.test("Restores a snapshot, which stays in its slot: also when calls follow", "two", "hour 1000", "keep 1", "goBack 1 = 1",
            "knock 0 9", "hours 3 9", "goBack 1 = 1", "ofThermometer 0 4 = 1000", "count 0 = 1", "goBack 1 = 1", "count 10 = 6");
        SENTENCES.test("Returns the number of the hour after the call: to an earlier and to a later one", "keep 0", "hours 9 0", "keep 1",
            "goBack 0 = 0", "goBack 1 = 9");
        SENTENCES.test("Restores a snapshot: from the last hour, and to it", "keep 0", "late", "keep 1", "goBack 0 = 0", "hour 5", "goBack 1 = 9999",
            "hour 5 ! IllegalState");
        SENTENCES.test("Restores a snapshot: with fewer and with more thermometers", "two", "keep 0", "thermometer 3 5 9 2", "keep 1", "goBack 0",
            "count 1 = 2", "ofThermometer 2 0 ! IndexOutOfBounds", "thermometer 1 2 3 4 = 2", "goBack 1", "count 1 = 3", "ofThermometer 2 1 = 5",
            "ofThermometer 2 2 = 9");
        SENTENCES.test("Restores a snapshot: with another thermometer of the same number", """
            thermometer 3 9 -200 5
            keep 0 = 0
            undo = 0
            thermometer 0 1 200 1 = 0
            goBack 0 = 0
            ofThermometer 0 0 = 3
            ofThermometer 0 1 = 9
            ofThermometer 0 2 = -200
            ofThermometer 0 3 = 5
            ofThermometer 0 4 = 800
            undo = 1
            ofThermometer 0 0 = 0
            ofThermometer 0 1 = 1
            ofThermometer 0 2 = 200
            ofThermometer 0 3 = 1
            ofThermometer 0 4 = 1200
            """);
        SENTENCES.test("Restores a snapshot: a thermometer that comes then starts afresh", """
            thermometer 0 1 0 1
            keep 1 = 0
            thermometer 0 9 0 1
            set 1 1
            knock 1 338
            hours 2 0
            ofThermometer 1 8 = 1
            goBack 1 = 0
            thermometer 2 3 -4 5 = 1
            ofThermometer 1 0 = 2
            ofThermometer 1 1 = 3
            ofThermometer 1 2 = -4
            ofThermometer 1 3 = 5
            ofThermometer 1 4 = 996
            ofThermometer 1 5 = 0
            ofThermometer 1 6 = 0
            ofThermometer 1 7 = 0
            ofThermometer 1 8 = 0
            ofThermometer 1 9 = NONE
            reading 1 0 0 = NONE
            hour 1000 = 2
            ofThermometer 1 9 = 1000
            reading 1 1 1 = NONE
            """);
        SENTENCES.test("Undoable: the oldest of six saved states is dropped", "keep 0", "6 x hour 1", "goBack 0", "count 10 = 6", "5 x undo",
            "undo = 0", "count 0 = 1");
    }

    /** A thermometer that had readings, strikes and spikes, and is not there any more. */
    private static void whoIsGone() {
        String one = """
            count 1 = 1
            count 3 = 1
            count 4 = 0
            count 5 = 1000
            count 7 = 1000
            count 8 = 1
            count 9 = 0
            ranked 0 0 = 0
            ranked 0 1 = NONE
            ranked 1 0 = 0
            ranked 1 1 = NONE
            between MIN MAX = 1
            meanError = 0.0
            row 0 1 = 1
            ofThermometer 1 0 ! IndexOutOfBounds
            ifStill 1 0 = 1000
            ifStill 1 1 = 0
            ifStill 1 2 = 0
            ifStill 1 3 = 0
            hour 1000 = 1
            count 6 = 0
            count 8 = 2
            count 9 = 0
            """;
        SENTENCES.test("Restores a snapshot: who is gone is in no answer", """
            thermometer 0 1 0 1
            hour 1000 = 1
            keep 0 = 1
            thermometer 0 9 0 5
            knock 1 -900
            hour 1000 = 2
            ofThermometer 1 9 = 200
            count 3 = 3
            ifStill 1 3 = 712
            goBack 0 = 1
            """, one);
        SENTENCES.test("Restores a snapshot: who is gone is in no answer, above all others", """
            thermometer 0 9 0 1
            knock 0 9
            hour 1000 = 1
            keep 0 = 1
            thermometer 0 9 0 5
            knock 1 900
            hour 1000 = 2
            ofThermometer 1 9 = 1800
            goBack 0 = 1
            ranked 0 0 = 0
            ranked 0 1 = NONE
            ranked 1 0 = 0
            ranked 1 1 = NONE
            between 1008 MAX = 1
            meanError = 8.0
            count 5 = 1008
            """);
        SENTENCES.test("Restores the state that was saved last: who is gone is in no answer", """
            thermometer 0 1 0 1
            hour 1000 = 1
            write t0,9;h50;h0
            execute = 3
            ofThermometer 1 7 = 2
            count 3 = 3
            ifStill 1 3
            undo = 2
            """, one);
        String ofThree = """
            3 x thermometer 0 1 0 1
            hour 1000 = 3
            keep 1 = 1
            set 0 10
            set 1 1
            thermometer 0 9 0 1
            knock 3 -900
            hour 1000 = 4
            count 4 = 8
            count 9 = 1
            ifStill 2 1 = 8
            goBack 1 = 1
            """;
        SENTENCES.test("Restores a snapshot: who is gone is not shut out", ofThree, "count 4 = 0", "count 3 = 7", "ifStill 1 1 = 0", "count 12 = 300",
            "count 13 = 2");
        SENTENCES.test("Restores a snapshot: who is gone is not compared, with a reading of an hour that passes again", """
            3 x thermometer 0 1 0 1
            hour 1000 = 3
            keep 1 = 1
            thermometer 0 9 0 1
            knock 3 -900
            hour 1000 = 4
            ofThermometer 3 8 = 1
            goBack 1 = 1
            hour 1000 = 3
            count 9 = 0
            count 8 = 6
            """);
    }

    private static void goBackRefuses() {
        SENTENCES.test("Throws IllegalStateException if the slot is empty: both are at first", "goBack 0 ! IllegalState", "goBack 1 ! IllegalState");
        SENTENCES.test("Throws IllegalStateException if the slot is empty: the one is full", "keep 0", "goBack 1 ! IllegalState", "goBack 0 = 0");
        SENTENCES.test("Throws IllegalStateException if the slot is empty: the other one is full", "keep 1", "goBack 0 ! IllegalState",
            "goBack 1 = 0");
        SENTENCES.test("Throws IllegalStateException if the slot is empty: of a busy object", "busy", "goBack 1 ! IllegalState");
        SENTENCES.refuses("Throws IllegalArgumentException if there is no such slot: goBack", "IllegalArgument", "goBack -1", "goBack 2",
            "goBack MIN", "goBack MAX");
        SENTENCES.test("The first that the throws clause lists: no such slot, and both are empty", "goBack 2 ! IllegalArgument",
            "goBack -1 ! IllegalArgument");
    }

    private static void noPartOfTheState() {
        SENTENCES.test("The state is everything except the snapshots: undo leaves a slot full", "hour 5", "keep 0", "undo = 0", "goBack 0 = 1");
        SENTENCES.test("The state is everything except the snapshots: goBack leaves the other slot full", "keep 0", "hour 5", "keep 1",
            "goBack 0 = 0", "goBack 1 = 1");
        SENTENCES.test("The state is everything except the saved states: goBack drops none of them", "keep 0", "hour 5", "hour 6", "goBack 0 = 0",
            "count 10 = 3", "undo = 2", "undo = 1", "undo = 0", "count 2 = 1000");
        SENTENCES.test("The state is everything except the saved states: a snapshot brings none back", "hour 5", "hour 6", "keep 0", "undo = 1",
            "undo = 0", "goBack 0 = 2", "count 10 = 1");
        SENTENCES.test("The state is everything except the buffer: undo and goBack leave it", "write h7", "hour 1", "keep 0", "append 59", "undo = 0",
            "count 11 = 3", "goBack 0 = 1", "count 11 = 3");
    }
}
