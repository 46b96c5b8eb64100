/** The boundary cases of the promises 16 to 21: ofThermometer, reading, row, count, ranked, between. */
public final class QueriesBoundaryTest {
    private static final Sentences SENTENCES = new Sentences("QueriesBoundaryTest");
    /** Mended temperatures from the number 0 on: 1008, 992, 1008, 1000, 992. */
    private static final String FIVE = """
        5 x thermometer 0 9 0 1
        knock 0 9
        knock 1 -9
        knock 2 9
        knock 4 -9
        hour 1000
        """;

    public static void main(String[] args) {
        ofThermometer();
        reading();
        row();
        rowIsReadNext();
        count();
        ranked();
        rankedByDifference();
        between();
        nothingChanges();
        SENTENCES.finish();
    }

    private static void ofThermometer() {
        SENTENCES.test("thermometer: its number: the first and the last one of ten", "9 x thermometer 0 1 0 1", "thermometer 3 9 200 5",
            "ofThermometer 0 0 = 0", "ofThermometer 9 0 = 3", "ofThermometer 9 9 = NONE", "ofThermometer 10 0 ! IndexOutOfBounds");
        SENTENCES.test("what: 0 to 9: of a new thermometer", """
            thermometer 2 8 -150 4
            ofThermometer 0 0 = 2
            ofThermometer 0 1 = 8
            ofThermometer 0 2 = -150
            ofThermometer 0 3 = 4
            ofThermometer 0 4 = 850
            ofThermometer 0 5 = 0
            ofThermometer 0 6 = 0
            ofThermometer 0 7 = 0
            ofThermometer 0 8 = 0
            ofThermometer 0 9 = NONE
            """);
        SENTENCES.test("6 1 if it is shut out, otherwise 0; 9 its mended temperature, also of one that is shut out", """
            3 x thermometer 0 1 0 1
            thermometer 0 9 0 1
            set 1 1
            knock 3 338
            hour 1000
            ofThermometer 3 6 = 1
            ofThermometer 3 9 = 1301
            ofThermometer 0 6 = 0
            """);
        SENTENCES.test("8 its spikes so far: more than its strikes", """
            3 x thermometer 0 1 0 1
            thermometer 0 9 0 1
            set 1 5
            knock 3 3000
            hour 1000
            hour 1000
            ofThermometer 3 5 = 0
            ofThermometer 3 8 = 1
            knock 3 3000
            hour 1000
            ofThermometer 3 5 = 1
            ofThermometer 3 8 = 2
            """);
        SENTENCES.refuses("Throws IndexOutOfBoundsException if there is no such thermometer", "IndexOutOfBounds",
            "ofThermometer -1 0", "ofThermometer 4 0", "ofThermometer MIN 0", "ofThermometer MAX 9");
        SENTENCES.test("Throws IndexOutOfBoundsException if there is no such thermometer: without any, and just outside of one", """
            ofThermometer 0 0 ! IndexOutOfBounds
            thermometer 0 1 0 1
            ofThermometer 0 0 = 0
            ofThermometer 1 0 ! IndexOutOfBounds
            """);
        SENTENCES.refusesBusy("Throws IllegalArgumentException if what is not 0 to 9", "IllegalArgument",
            "ofThermometer 0 -1", "ofThermometer 3 10", "ofThermometer 0 MIN", "ofThermometer 0 MAX");
        SENTENCES.refuses("The first that the throws clause lists: no such thermometer, and what is not 0 to 9", "IndexOutOfBounds",
            "ofThermometer 4 10", "ofThermometer -1 -1");
    }

    private static void reading() {
        SENTENCES.test("ago: 0 for the latest one, 1 for the one before: of two", """
            thermometer 0 1 7 1
            period 0 3
            hours 6 10
            reading 0 0 0 = 6
            reading 0 0 1 = 1067
            reading 0 1 0 = 3
            reading 0 1 1 = 1037
            reading 0 2 0 = NONE
            reading 0 2 1 = NONE
            """);
        SENTENCES.test("NONE if not so many are kept: far too many", "thermometer 0 1 0 1", "hours 6 0", "reading 0 5 0 = 1", "reading 0 6 0 = NONE",
            "reading 0 7 1 = NONE", "reading 0 MAX 0 = NONE", "reading 0 MAX 1 = NONE");
        SENTENCES.test("NONE if not so many are kept: none, as they were dropped", "thermometer 0 1 0 1", "hours 6 0", "calibrate 0",
            "reading 0 0 0 = NONE", "reading 0 0 1 = NONE", "reading 0 5 0 = NONE");
        SENTENCES.test("1 its value: what it showed then, with its offset", "thermometer 0 9 -200 1", "hour 1000", "reading 0 0 1 = 800");
        SENTENCES.refuses("Throws IndexOutOfBoundsException if there is no such thermometer", "IndexOutOfBounds",
            "reading -1 0 0", "reading 4 0 0", "reading MIN 0 0", "reading MAX 0 0");
        SENTENCES.test("Throws IndexOutOfBoundsException if there is no such thermometer: just outside of one and of ten", "thermometer 0 1 0 1",
            "reading 1 0 0 ! IndexOutOfBounds", "9 x thermometer 0 1 0 1", "reading 9 0 0 = NONE", "reading 10 0 0 ! IndexOutOfBounds");
        SENTENCES.refusesBusy("Throws IllegalArgumentException if ago is negative", "IllegalArgument", "reading 0 -1 0", "reading 3 MIN 1");
        SENTENCES.refusesBusy("Throws IllegalArgumentException if what is not 0 or 1", "IllegalArgument",
            "reading 0 0 -1", "reading 0 0 2", "reading 0 0 MIN", "reading 0 MAX MAX", "reading 0 9 2");
        SENTENCES.refuses("The first that the throws clause lists: no such thermometer, and ago or what out of range", "IndexOutOfBounds",
            "reading 4 -1 0", "reading -1 0 2", "reading 4 -1 2");
    }

    private static void row() {
        SENTENCES.test("row: 0 to 3, what: 0 its period: the first and the last", "period 0 6", "period 3 5", "row 0 0 = 6", "row 3 0 = 5");
        SENTENCES.test("1 its thermometers: none, one and ten", "row 2 1 = 0", "thermometer 2 1 0 1", "row 2 1 = 1", "9 x thermometer 2 1 0 1",
            "row 2 1 = 10", "row 1 1 = 0", "row 3 1 = 0");
        SENTENCES.test("1 its thermometers: also who is shut out", "two", "set 1 1", "knock 1 338", "hour 1000", "count 4 = 3", "row 0 1 = 1", "row 1 1 = 1");
        SENTENCES.test("3 how often it was read so far (also without thermometers)", "row 0 3 = 0", "hour 1000", "row 0 3 = 1", "row 3 3 = 1",
            "period 3 2", "hours 24 0", "row 0 3 = 25", "row 3 3 = 13");
        SENTENCES.refuses("Throws IndexOutOfBoundsException if there is no such row", "IndexOutOfBounds",
            "row -1 0", "row 4 0", "row MIN 0", "row MAX 0");
        SENTENCES.refuses("Throws IllegalArgumentException if what is not 0 to 3", "IllegalArgument",
            "row 0 -1", "row 3 4", "row 0 MIN", "row 0 MAX");
        SENTENCES.refuses("The first that the throws clause lists: no such row, and what is not 0 to 3", "IndexOutOfBounds", "row 4 4", "row -1 -1");
    }

    private static void rowIsReadNext() {
        SENTENCES.test("2 in how many hours it is read next (1 to 6): the period 1", "row 0 2 = 1", "hour 1000", "row 0 2 = 1");
        SENTENCES.test("2 in how many hours it is read next (1 to 6): the period 6", """
            period 3 6
            row 3 2 = 6
            hour 1000
            row 3 2 = 5
            hours 4 0
            row 3 2 = 1
            hour 1000
            row 3 2 = 6
            """);
        SENTENCES.test("2 in how many hours it is read next (1 to 6): the period that it has now", "hours 7 0", "row 1 2 = 1", "period 1 4",
            "row 1 2 = 1", "period 1 5", "row 1 2 = 3", "period 1 6", "row 1 2 = 5", "period 1 2", "row 1 2 = 1", "period 1 3", "row 1 2 = 2");
        SENTENCES.test("2 in how many hours it is read next (1 to 6): also beyond the last hour", "late", "period 0 6", "row 0 2 = 3", "period 0 4",
            "row 0 2 = 1");
    }

    private static void count() {
        SENTENCES.refuses("Throws IllegalArgumentException if what is not 0 to 13", "IllegalArgument", "count -1", "count 14", "count MIN", "count MAX");
        SENTENCES.test("what: 0 to 13: of a new object", """
            count 0 = 0
            count 1 = 0
            count 2 = 1000
            count 3 = 0
            count 4 = 0
            count 5 = NONE
            count 6 = NONE
            count 7 = NONE
            count 8 = 0
            count 9 = 0
            count 10 = 0
            count 11 = 0
            count 12 = 300
            count 13 = 2
            """);
        SENTENCES.test("0 the hour: the last one", "late", "count 0 = 9999");
        SENTENCES.test("1 the thermometers: ten", "ten", "count 1 = 10");
        SENTENCES.test("3 the thermometers that are asked, as a bit mask: the last of ten alone", """
            9 x thermometer 0 1 0 1
            thermometer 1 1 0 1
            period 0 2
            hour 1000
            count 3 = 512
            count 4 = 0
            """);
        SENTENCES.test("4 those that are shut out, as a bit mask: the last of ten alone", """
            9 x thermometer 0 1 0 1
            thermometer 1 9 0 1
            set 1 1
            knock 9 338
            hour 1000
            count 4 = 512
            count 3 = 511
            """);
        SENTENCES.test("4 those that are shut out, as a bit mask: all ten, each as it differs from all others", """
            10 x thermometer 0 9 0 1
            set 0 10
            set 1 1
            knock 1 18
            knock 2 36
            knock 3 54
            knock 4 72
            knock 5 90
            knock 6 108
            knock 7 126
            knock 8 144
            knock 9 162
            hour 1000
            count 4 = 1023
            count 3 = 0
            count 9 = 10
            """);
        SENTENCES.test("7 the middle of all that are asked (NONE if none is asked): without who is shut out", """
            3 x thermometer 0 1 0 1
            thermometer 0 9 0 1
            set 1 1
            knock 3 -338
            hour 1000
            count 7 = 1000
            calibrate 0
            calibrate 1
            calibrate 2
            count 7 = NONE
            count 3 = 0
            """);
        SENTENCES.test("8 the readings so far: dropped ones too", "ten", "hours 24 0", "count 8 = 240", "calibrate 0", "count 8 = 240");
        SENTENCES.test("9 the spikes so far: of one that was calibrated too", "two", "knock 1 338", "hour 1000", "count 9 = 2", "calibrate 1",
            "count 9 = 2", "ofThermometer 1 8 = 1");
        SENTENCES.test("10 the number of saved states: 6 at most", "5 x hour 1", "count 10 = 5", "hour 1", "count 10 = 6", "hour 1", "count 10 = 6");
        SENTENCES.test("11 the length of the buffer: 0 to 60", "count 11 = 0", "append 33", "count 11 = 1", "59 x append 33", "count 11 = 60");
    }

    private static void ranked() {
        SENTENCES.test("how: 0 by the mended temperature, the lowest first; of several the one with the lowest number first", FIVE, """
            ranked 0 0 = 1
            ranked 0 1 = 4
            ranked 0 2 = 3
            ranked 0 3 = 0
            ranked 0 4 = 2
            """);
        SENTENCES.test("NONE if there are not so many", FIVE, "ranked 0 5 = NONE", "ranked 1 5 = NONE", "ranked 0 MAX = NONE", "ranked 1 MAX = NONE");
        SENTENCES.test("NONE if there are not so many: without thermometers, and without readings", "ranked 0 0 = NONE", "ranked 1 0 = NONE", "ten",
            "ranked 0 0 = NONE", "ranked 1 0 = NONE");
        SENTENCES.test("Returns a thermometer that has a mended temperature: no other has a place", FIVE, "thermometer 0 1 0 1", "calibrate 1",
            "ranked 0 0 = 4", "ranked 0 3 = 2", "ranked 0 4 = NONE", "ranked 1 3 = 3", "ranked 1 4 = NONE");
        SENTENCES.test("Returns the number of the thermometer: the last of ten", "ten", "hour 1000", "ranked 0 0 = 0", "ranked 0 9 = 9",
            "ranked 1 9 = 9", "ranked 0 10 = NONE");
        SENTENCES.test("Returns a thermometer that has a mended temperature: also one that is shut out", "two", "set 1 1", "knock 1 338",
            "hour 1000", "count 4 = 3", "ranked 0 0 = 0", "ranked 0 1 = 1", "ranked 1 0 = 1");
        SENTENCES.refuses("Throws IllegalArgumentException if how is neither 0 nor 1", "IllegalArgument", "ranked -1 0", "ranked 2 0",
            "ranked MIN 0", "ranked MAX 0");
        SENTENCES.refuses("Throws IllegalArgumentException if rank is negative", "IllegalArgument", "ranked 0 -1", "ranked 1 -1", "ranked 0 MIN");
    }

    private static void rankedByDifference() {
        SENTENCES.test("how: 1 by the size of its difference, the greatest first; of several the one with the lowest number first", FIVE, """
            ranked 1 0 = 0
            ranked 1 1 = 1
            ranked 1 2 = 2
            ranked 1 3 = 4
            ranked 1 4 = 3
            """);
        SENTENCES.test("its difference from the true temperature of now", """
            thermometer 0 1 0 1
            thermometer 1 1 0 1
            hour 1000
            ranked 1 0 = 0
            period 0 6
            period 1 2
            hour 1001
            ranked 1 0 = 0
            ranked 1 1 = 1
            period 0 3
            period 1 6
            hour 1002
            ranked 1 0 = 1
            ranked 1 1 = 0
            """);
    }

    private static void between() {
        SENTENCES.test("Returns how many thermometers have a mended temperature in a range: both ends are in it", FIVE, """
            between 992 1008 = 5
            between 993 1008 = 3
            between 992 1007 = 3
            between 993 1007 = 1
            between 1000 1000 = 1
            between 992 992 = 2
            between 1001 1007 = 0
            between 1009 MAX = 0
            between MIN 991 = 0
            between MIN MAX = 5
            """);
        SENTENCES.test("from: the least temperature, to: the greatest: the least is above the greatest", FIVE, "between 1008 992 = 0",
            "between 1000 999 = 0", "between MAX MIN = 0");
        SENTENCES.test("Returns how many thermometers: none, without readings, and ten", "between MIN MAX = 0", "ten", "between MIN MAX = 0",
            "hour 1000", "between 1000 1000 = 10", "calibrate 9", "between 1000 1000 = 9");
        SENTENCES.test("Returns how many thermometers: also those that are shut out", "two", "set 1 1", "knock 1 338", "hour 1000", "count 4 = 3",
            "between 1000 1301 = 2", "between 1000 1300 = 1");
        SENTENCES.test("Returns how many thermometers have a mended temperature: far below zero", "thermometer 0 9 0 1", "7 x knock 0 -3000",
            "hour -5000", "between -18334 -18334 = 1", "between -18333 MAX = 0", "between MIN -18335 = 0");
    }

    private static void nothingChanges() {
        SENTENCES.changeNothing("Queries; nothing changes", "ofThermometer 2 6", "ofThermometer 0 9", "reading 0 5 1", "row 3 3", "count 5",
            "count 7", "ranked 0 3", "ranked 1 3", "between MIN MAX");
    }
}
