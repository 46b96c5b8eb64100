/** The boundary cases of the promises 1 to 8: a new object, thermometer, hour, hours, period, calibrate, knock, set. */
public final class ThermometersAndHoursBoundaryTest {
    private static final Sentences SENTENCES = new Sentences("ThermometersAndHoursBoundaryTest");

    public static void main(String[] args) {
        newObject();
        thermometer();
        thermometerRefuses();
        hour();
        hours();
        hoursRefuses();
        period();
        calibrate();
        knock();
        knockRefuses();
        set();
        SENTENCES.finish();
    }

    private static void newObject() {
        SENTENCES.test("Creates a place without thermometers", """
            count 1 = 0
            ofThermometer 0 0 ! IndexOutOfBounds
            calibrate 0 ! IndexOutOfBounds
            row 0 1 = 0
            row 1 1 = 0
            row 2 1 = 0
            row 3 1 = 0
            """);
        SENTENCES.test("Creates a place: nobody is asked or shut out, nothing was read, nothing is saved", """
            count 3 = 0
            count 4 = 0
            count 8 = 0
            count 9 = 0
            count 10 = 0
            count 11 = 0
            row 0 3 = 0
            row 3 3 = 0
            """);
    }

    private static void thermometer() {
        SENTENCES.test("row: 0 to 3: just inside", """
            thermometer 0 1 0 1 = 0
            thermometer 3 1 0 1 = 1
            ofThermometer 0 0 = 0
            ofThermometer 1 0 = 3
            """);
        SENTENCES.test("lag: 1 to 9: just inside", """
            thermometer 0 1 0 1 = 0
            thermometer 0 9 0 1 = 1
            ofThermometer 0 1 = 1
            ofThermometer 1 1 = 9
            """);
        SENTENCES.test("offset: -200 to 200: just inside", """
            thermometer 0 1 -200 1 = 0
            thermometer 0 1 200 1 = 1
            ofThermometer 0 2 = -200
            ofThermometer 1 2 = 200
            """);
        SENTENCES.test("weight: 1 to 5: just inside", """
            thermometer 0 1 0 1 = 0
            thermometer 0 1 0 5 = 1
            ofThermometer 0 3 = 1
            ofThermometer 1 3 = 5
            """);
        SENTENCES.test("Returns its number: 0 for the first one, 9 for the last one", "thermometer 0 1 0 1 = 0", "8 x thermometer 0 1 0 1",
            "thermometer 0 1 0 1 = 9");
    }

    private static void thermometerRefuses() {
        SENTENCES.refuses("Throws IndexOutOfBoundsException if there is no such row", "IndexOutOfBounds",
            "thermometer -1 1 0 1", "thermometer 4 1 0 1", "thermometer MIN 1 0 1", "thermometer MAX 1 0 1");
        SENTENCES.refuses("Throws IllegalArgumentException if another argument is out of range: lag", "IllegalArgument",
            "thermometer 0 0 0 1", "thermometer 0 10 0 1", "thermometer 0 MIN 0 1", "thermometer 0 MAX 0 1");
        SENTENCES.refuses("Throws IllegalArgumentException if another argument is out of range: offset", "IllegalArgument",
            "thermometer 0 1 -201 1", "thermometer 0 1 201 1", "thermometer 0 1 MIN 1", "thermometer 0 1 MAX 1");
        SENTENCES.refuses("Throws IllegalArgumentException if another argument is out of range: weight", "IllegalArgument",
            "thermometer 0 1 0 0", "thermometer 0 1 0 6", "thermometer 0 1 0 MIN", "thermometer 0 1 0 MAX");
        SENTENCES.test("Throws IllegalStateException if there are 10 thermometers, and not if there are 9", """
            9 x thermometer 0 1 0 1
            thermometer 3 9 200 5 = 9
            thermometer 0 1 0 1 ! IllegalState
            thermometer 3 9 200 5 ! IllegalState
            count 1 = 10
            count 10 = 6
            undo = 5
            thermometer 0 1 0 1 = 9
            """);
        SENTENCES.test("The first that the throws clause lists: no such row, and another argument out of range", """
            thermometer 4 0 0 1 ! IndexOutOfBounds
            thermometer -1 1 201 1 ! IndexOutOfBounds
            thermometer 4 1 0 6 ! IndexOutOfBounds
            """);
        SENTENCES.test("The first that the throws clause lists: no such row, and 10 thermometers", "ten",
            "thermometer 4 1 0 1 ! IndexOutOfBounds", "thermometer -1 1 0 1 ! IndexOutOfBounds");
        SENTENCES.test("The first that the throws clause lists: another argument out of range, and 10 thermometers", """
            ten
            thermometer 0 10 0 1 ! IllegalArgument
            thermometer 0 1 -201 1 ! IllegalArgument
            thermometer 0 1 0 0 ! IllegalArgument
            """);
        SENTENCES.test("The first that the throws clause lists: all three", "ten", "thermometer 4 0 201 6 ! IndexOutOfBounds");
    }

    private static void hour() {
        SENTENCES.test("temperature: -5000 to 5000: just inside", "hour -5000 = 0", "count 2 = -5000", "hour 5000 = 0", "count 2 = 5000");
        SENTENCES.refuses("Throws IllegalArgumentException if temperature is out of range", "IllegalArgument",
            "hour -5001", "hour 5001", "hour MIN", "hour MAX");
        SENTENCES.test("Returns how many readings there are in it: none without thermometers", "hour 1000 = 0", "count 8 = 0");
        SENTENCES.test("Returns how many readings there are in it: of ten", "ten", "hour 1000 = 10", "hour 1000 = 10", "count 8 = 20");
        SENTENCES.test("Returns how many readings there are in it: also beyond the six that are kept", "thermometer 0 1 0 1", "hours 6 0",
            "hour 1000 = 1", "count 8 = 7");
        SENTENCES.test("Throws IllegalStateException if the hour would be greater than 9999: the last hour may pass", """
            416 x hours 24 0
            hours 14 0
            count 0 = 9998
            hour 5 = 0
            count 0 = 9999
            count 2 = 5
            """);
        SENTENCES.test("Throws IllegalStateException if the hour would be greater than 9999", "late", "count 0 = 9999", "hour 5 ! IllegalState");
        SENTENCES.test("Throws IllegalStateException if the hour would be greater than 9999: it may pass again when one is undone", """
            late
            hour 5 ! IllegalState
            undo = 5
            count 0 = 9984
            hour 5 = 0
            """);
        SENTENCES.test("The first that the throws clause lists: temperature out of range, and no hour left", "late",
            "hour 5001 ! IllegalArgument", "hour -5001 ! IllegalArgument");
    }

    private static void hours() {
        SENTENCES.test("hours: 1 to 24: just inside", "hours 1 0 = 1000", "count 0 = 1", "hours 24 0 = 1000", "count 0 = 25");
        SENTENCES.test("change: -500 to 500: just inside", "hours 1 500 = 1500", "hours 1 -500 = 1000", "count 0 = 2");
        SENTENCES.test("It is never above 5000: it may be 5000", "hours 8 500 = 5000", "hours 1 1 = 5000", "count 0 = 9");
        SENTENCES.test("It is never above 5000: just below it", "hour 4999", "hours 2 1 = 5000", "hour 4998", "hours 2 1 = 5000", "hour 4997",
            "hours 2 1 = 4999");
        SENTENCES.test("It is never below -5000: it may be -5000", "hours 12 -500 = -5000", "hours 1 -1 = -5000", "count 0 = 13");
        SENTENCES.test("It is never below -5000: just above it", "hour -4999", "hours 2 -1 = -5000", "hour -4998", "hours 2 -1 = -5000",
            "hour -4997", "hours 2 -1 = -4999");
        SENTENCES.test("It is never below -5000 or above 5000: in the hours before the last one", """
            thermometer 0 1 0 1
            hour 4800
            hours 3 150 = 5000
            reading 0 2 1 = 4950
            reading 0 1 1 = 5000
            reading 0 0 1 = 5000
            """);
        SENTENCES.test("The true temperature changes evenly, from what it is", "thermometer 0 1 0 1", "hour 0", "hours 3 -7 = -21",
            "reading 0 2 1 = -7", "reading 0 1 1 = -14", "reading 0 0 1 = -21");
        SENTENCES.test("Undoable, as one call", "hours 24 1", "count 10 = 1", "undo = 0", "count 0 = 0", "count 2 = 1000");
        SENTENCES.test("As many hours pass by hours as by hour", """
            2 x thermometer 0 1 0 1
            hours 2 50
            count 8 = 4
            row 0 3 = 2
            count 6 = 50
            """);
    }

    private static void hoursRefuses() {
        SENTENCES.refuses("Throws IllegalArgumentException if an argument is out of range: hours", "IllegalArgument",
            "hours 0 0", "hours 25 0", "hours -1 0", "hours MIN 0", "hours MAX 0");
        SENTENCES.refuses("Throws IllegalArgumentException if an argument is out of range: change", "IllegalArgument",
            "hours 1 -501", "hours 1 501", "hours 1 MIN", "hours 1 MAX");
        SENTENCES.test("Throws IllegalStateException if the hour would be greater than 9999: 24 hours to the last one", """
            415 x hours 24 0
            hours 15 1
            count 0 = 9975
            hours 24 1 = 1039
            count 0 = 9999
            """);
        SENTENCES.test("Throws IllegalStateException if the hour would be greater than 9999: 24 hours, one too many", """
            415 x hours 24 0
            hours 16 1
            hours 24 1 ! IllegalState
            count 0 = 9976
            hours 23 0
            count 0 = 9999
            """);
        SENTENCES.test("Throws IllegalStateException if the hour would be greater than 9999: one hour", "late", "hours 1 0 ! IllegalState");
        SENTENCES.test("Throws IllegalStateException if the hour would be greater than 9999: one hour to the last one", """
            416 x hours 24 0
            hours 14 0
            hours 2 0 ! IllegalState
            hours 1 0 = 1000
            count 0 = 9999
            """);
        SENTENCES.test("The first that the throws clause lists: an argument out of range, and no hour left", "late",
            "hours 25 0 ! IllegalArgument", "hours 0 0 ! IllegalArgument", "hours 1 501 ! IllegalArgument", "hours 1 -501 ! IllegalArgument");
    }

    private static void period() {
        SENTENCES.test("row: 0 to 3: just inside", "period 0 2 = 1", "period 3 3 = 1", "row 0 0 = 2", "row 1 0 = 1", "row 2 0 = 1", "row 3 0 = 3");
        SENTENCES.test("period: 1 to 6: just inside", "period 1 6 = 1", "row 1 0 = 6", "period 1 1 = 6", "row 1 0 = 1");
        SENTENCES.test("Returns the previous period: also the same", "period 2 5 = 1", "period 2 5 = 5", "period 2 1 = 5");
        SENTENCES.refuses("Throws IndexOutOfBoundsException if there is no such row", "IndexOutOfBounds",
            "period -1 1", "period 4 1", "period MIN 1", "period MAX 1");
        SENTENCES.refuses("Throws IllegalArgumentException if period is out of range", "IllegalArgument",
            "period 0 0", "period 3 7", "period 0 MIN", "period 0 MAX");
        SENTENCES.refuses("The first that the throws clause lists: no such row, and period out of range", "IndexOutOfBounds",
            "period 4 0", "period -1 7");
    }

    private static void calibrate() {
        SENTENCES.test("It shows the true temperature plus its offset", """
            thermometer 0 9 200 1
            thermometer 0 9 -200 1
            hour 5000
            calibrate 0 = 0
            ofThermometer 0 4 = 5200
            hour -5000
            calibrate 1
            ofThermometer 1 4 = -5200
            """);
        SENTENCES.test("Its readings are dropped: six, none, and the other's stay", """
            thermometer 0 1 0 1
            thermometer 0 1 0 1
            hours 6 0
            calibrate 0
            ofThermometer 0 7 = 0
            reading 0 0 0 = NONE
            ofThermometer 1 7 = 6
            count 8 = 12
            calibrate 0
            ofThermometer 0 7 = 0
            hour 900
            ofThermometer 0 7 = 1
            reading 0 0 1 = 900
            reading 0 1 1 = NONE
            ofThermometer 0 9 = 900
            """);
        SENTENCES.test("Its strikes become 0; returns the strikes that it had", """
            thermometer 0 1 0 1
            thermometer 0 1 0 1
            thermometer 0 9 0 1
            knock 2 338
            hour 1000
            ofThermometer 2 5 = 1
            calibrate 2 = 1
            ofThermometer 2 5 = 0
            calibrate 2 = 0
            """);
        SENTENCES.test("It is not shut out any more; its spikes so far stay", """
            two
            set 1 1
            knock 1 338
            hour 1000
            ofThermometer 1 6 = 1
            calibrate 1 = 1
            ofThermometer 1 6 = 0
            ofThermometer 1 8 = 1
            ofThermometer 0 6 = 1
            count 9 = 2
            """);
        SENTENCES.test("thermometer: its number: the first and the last one of ten", "ten", "calibrate 0 = 0", "calibrate 9 = 0",
            "calibrate 10 ! IndexOutOfBounds");
        SENTENCES.refuses("Throws IndexOutOfBoundsException if there is no such thermometer", "IndexOutOfBounds",
            "calibrate -1", "calibrate 4", "calibrate MIN", "calibrate MAX");
        SENTENCES.test("Throws IndexOutOfBoundsException if there is no such thermometer: without any, and just outside of one", """
            calibrate 0 ! IndexOutOfBounds
            thermometer 0 1 0 1
            calibrate 0 = 0
            calibrate 1 ! IndexOutOfBounds
            """);
    }

    private static void knock() {
        SENTENCES.test("change: -3000 to 3000: just inside", "thermometer 0 1 0 1", "knock 0 -3000 = 98000", "ofThermometer 0 4 = -2000",
            "knock 0 3000 = 101000", "ofThermometer 0 4 = 1000");
        SENTENCES.test("Returns what it shows then, plus 100000: below, at and above zero", "thermometer 0 1 0 1", "knock 0 -1001 = 99999",
            "knock 0 1 = 100000", "knock 0 1 = 100001", "knock 0 0 = 100001");
        SENTENCES.test("thermometer: its number: the first and the last one of ten", "ten", "knock 0 1 = 101001", "knock 9 2 = 101002",
            "knock 10 0 ! IndexOutOfBounds");
        SENTENCES.test("It shows another number: the readings that there are stay", "thermometer 0 2 0 1", "hour 1000", "knock 0 100",
            "reading 0 0 1 = 1000", "ofThermometer 0 9 = 1000");
        SENTENCES.test("It would show less than -20000: -20000 may be shown", "thermometer 0 1 0 1", "6 x knock 0 -3000",
            "knock 0 -3000 = 80000", "ofThermometer 0 4 = -20000");
        SENTENCES.test("It would show more than 20000: 20000 may be shown", "thermometer 0 1 0 1", "6 x knock 0 3000", "knock 0 1000 = 120000",
            "ofThermometer 0 4 = 20000");
    }

    private static void knockRefuses() {
        SENTENCES.test("Throws IllegalStateException if it would show less than -20000", """
            thermometer 0 1 0 1
            6 x knock 0 -3000
            knock 0 -2999 = 80001
            knock 0 -2 ! IllegalState
            knock 0 -3000 ! IllegalState
            knock 0 -1 = 80000
            knock 0 -1 ! IllegalState
            knock 0 0 = 80000
            """);
        SENTENCES.test("Throws IllegalStateException if it would show more than 20000", """
            thermometer 0 1 0 1
            6 x knock 0 3000
            knock 0 999 = 119999
            knock 0 2 ! IllegalState
            knock 0 3000 ! IllegalState
            knock 0 1 = 120000
            knock 0 1 ! IllegalState
            knock 0 0 = 120000
            """);
        SENTENCES.refusesBusy("Throws IllegalArgumentException if change is out of range", "IllegalArgument",
            "knock 0 -3001", "knock 0 3001", "knock 3 MIN", "knock 3 MAX");
        SENTENCES.refuses("Throws IndexOutOfBoundsException if there is no such thermometer", "IndexOutOfBounds",
            "knock -1 0", "knock 4 0", "knock MIN 0", "knock MAX 0");
        SENTENCES.test("Throws IndexOutOfBoundsException if there is no such thermometer: without any, and just outside of one", """
            knock 0 0 ! IndexOutOfBounds
            thermometer 0 1 0 1
            knock 0 0 = 101000
            knock 1 0 ! IndexOutOfBounds
            """);
        SENTENCES.refuses("The first that the throws clause lists: no such thermometer, and change out of range", "IndexOutOfBounds",
            "knock 4 3001", "knock -1 -3001");
        SENTENCES.test("The first that the throws clause lists: change out of range, and it would show too much", "thermometer 0 1 0 1",
            "6 x knock 0 3000", "knock 0 3001 ! IllegalArgument", "knock 0 MAX ! IllegalArgument");
        SENTENCES.test("The first that the throws clause lists: change out of range, and it would show too little", "thermometer 0 1 0 1",
            "7 x knock 0 -3000", "knock 0 -3001 ! IllegalArgument", "knock 0 MIN ! IllegalArgument");
    }

    private static void set() {
        SENTENCES.test("0: the greatest difference, 10 to 2000: just inside", "set 0 10 = 300", "count 12 = 10", "set 0 2000 = 10",
            "count 12 = 2000", "count 13 = 2");
        SENTENCES.test("1: the strikes, 1 to 5: just inside", "set 1 1 = 2", "count 13 = 1", "set 1 5 = 1", "count 13 = 5", "count 12 = 300");
        SENTENCES.test("Returns the previous value: also the same", "set 0 77 = 300", "set 0 77 = 77", "set 1 4 = 2", "set 1 4 = 4");
        SENTENCES.refuses("Throws IndexOutOfBoundsException if there is no such setting", "IndexOutOfBounds",
            "set -1 10", "set 2 10", "set 2 5", "set -1 1", "set MIN 10", "set MAX 10");
        SENTENCES.refuses("Throws IllegalArgumentException if value is out of range: of the setting 0", "IllegalArgument",
            "set 0 9", "set 0 2001", "set 0 MIN", "set 0 MAX");
        SENTENCES.refuses("Throws IllegalArgumentException if value is out of range: of the setting 1", "IllegalArgument",
            "set 1 0", "set 1 6", "set 1 10", "set 1 MIN", "set 1 MAX");
        SENTENCES.refuses("The first that the throws clause lists: no such setting, and value out of range", "IndexOutOfBounds",
            "set 2 0", "set -1 2001", "set 2 MIN");
        SENTENCES.test("Strikes that there are stay, and nobody is shut out by this", """
            thermometer 0 1 0 1
            thermometer 0 1 0 1
            thermometer 0 9 0 1
            set 1 5
            knock 2 338
            hour 1000
            set 1 1 = 5
            ofThermometer 2 5 = 1
            ofThermometer 2 6 = 0
            set 0 10
            ofThermometer 2 5 = 1
            count 4 = 0
            """);
        SENTENCES.test("Strikes that there are stay, and nobody is asked again by this", "two", "set 1 1", "knock 1 338", "hour 1000",
            "set 1 2", "set 0 2000", "ofThermometer 1 5 = 1", "count 4 = 3");
    }
}
