/** The boundary cases of the promises 22 to 26: ifLag, bestLag, ifStill, stillIn, meanError. */
public final class WhatWouldBeBoundaryTest {
    private static final Sentences SENTENCES = new Sentences("WhatWouldBeBoundaryTest");

    public static void main(String[] args) {
        ifLag();
        bestLag();
        ifStill();
        ifStillSpikes();
        ifStillDifference();
        ifStillRefuses();
        stillIn();
        meanError();
        nothingChanges();
        SENTENCES.finish();
    }

    private static void ifLag() {
        SENTENCES.test("lag: 1 to 9: just inside", "thermometer 0 5 10 1", "hour 1000", "knock 0 -50", "hour 1000", "reading 0 0 1 = 970",
            "reading 0 1 1 = 1010", "ifLag 0 1 = 960", "ifLag 0 9 = 640", "ifLag 0 5 = 800");
        SENTENCES.test("NONE if there is none: without a reading, and when they were dropped", "thermometer 0 5 0 1", "ifLag 0 1 = NONE",
            "ifLag 0 9 = NONE", "hours 2 0", "calibrate 0", "ifLag 0 5 = NONE");
        SENTENCES.test("Returns the mended temperature with another lag: of one reading, the same with each", "thermometer 0 5 -200 1", "hour 1500",
            "ofThermometer 0 9 = 1100", "ifLag 0 1 = 1100", "ifLag 0 9 = 1100");
        SENTENCES.test("Returns the mended temperature with another lag: divisions round toward zero", "thermometer 0 1 0 1", "period 0 4",
            "hours 4 0", "hours 4 1", "ifLag 0 1 = 1004", "ifLag 0 2 = 1005", "undo", "hours 3 0", "hour 1003", "ifLag 0 2 = 1003",
            "ifLag 0 3 = 1004", "undo", "hour 997", "ifLag 0 2 = 997", "ifLag 0 3 = 996");
        SENTENCES.refuses("Throws IndexOutOfBoundsException if there is no such thermometer: ifLag", "IndexOutOfBounds",
            "ifLag -1 1", "ifLag 4 1", "ifLag MIN 1", "ifLag MAX 1");
        SENTENCES.test("Throws IndexOutOfBoundsException if there is no such thermometer: ifLag, just outside", "ifLag 0 1 ! IndexOutOfBounds",
            "thermometer 0 1 0 1", "ifLag 0 1 = NONE", "ifLag 1 1 ! IndexOutOfBounds", "9 x thermometer 0 1 0 1", "ifLag 9 9 = NONE",
            "ifLag 10 1 ! IndexOutOfBounds");
        SENTENCES.refusesBusy("Throws IllegalArgumentException if lag is out of range", "IllegalArgument",
            "ifLag 0 0", "ifLag 3 10", "ifLag 0 MIN", "ifLag 0 MAX");
        SENTENCES.test("Throws IllegalArgumentException if lag is out of range: without a reading too", "thermometer 0 1 0 1",
            "ifLag 0 0 ! IllegalArgument", "ifLag 0 10 ! IllegalArgument");
        SENTENCES.refuses("The first that the throws clause lists: no such thermometer, and lag out of range", "IndexOutOfBounds",
            "ifLag 4 0", "ifLag -1 10");
    }

    /** The readings 1000 and 1010 are an hour apart: with a lag it would be 1000 and 10 times the lag; 0 is not read then. */
    private static void lagFor(String sentence, int temperature, int lag) {
        SENTENCES.test(sentence + ": " + temperature, "thermometer 0 1 0 1", "hour 1000", "hour 1010", "period 0 6", "hour " + temperature,
            "bestLag 0 = " + lag);
    }

    private static void bestLag() {
        SENTENCES.test("NONE if it has no mended temperature: without a reading, and when they were dropped", "thermometer 0 5 0 1", "bestLag 0 = NONE",
            "hours 2 50", "bestLag 0 = 5", "calibrate 0", "bestLag 0 = NONE");
        SENTENCES.test("of several the least one: all, with one reading", "thermometer 0 5 0 1", "hour 1500", "bestLag 0 = 1");
        SENTENCES.test("of several the least one: all, as nothing changed", "thermometer 0 5 0 1", "hours 2 0", "bestLag 0 = 1");
        lagFor("Returns the lag, 1 to 9: the least", -5000, 1);
        lagFor("Returns the lag, 1 to 9: the least", 1010, 1);
        lagFor("nearest; of several the least one: of 1 and 2", 1015, 1);
        lagFor("nearest; of several the least one: just beyond it", 1016, 2);
        lagFor("nearest; of several the least one: of 8 and 9", 1085, 8);
        lagFor("nearest; of several the least one: just beyond it", 1086, 9);
        lagFor("Returns the lag, 1 to 9: the greatest", 1090, 9);
        lagFor("Returns the lag, 1 to 9: the greatest", 5000, 9);
        SENTENCES.test("Returns the lag with which the mended temperature would be nearest: with its offset", "thermometer 0 9 -200 1", "hour 1000",
            "hour 1900", "bestLag 0 = 9", "ofThermometer 0 9 = 1900");
        SENTENCES.refuses("Throws IndexOutOfBoundsException if there is no such thermometer: bestLag", "IndexOutOfBounds",
            "bestLag -1", "bestLag 4", "bestLag MIN", "bestLag MAX");
        SENTENCES.test("Throws IndexOutOfBoundsException if there is no such thermometer: bestLag, just outside", "bestLag 0 ! IndexOutOfBounds",
            "thermometer 0 1 0 1", "bestLag 0 = NONE", "bestLag 1 ! IndexOutOfBounds", "9 x thermometer 0 1 0 1", "bestLag 9 = NONE",
            "bestLag 10 ! IndexOutOfBounds");
    }

    private static void ifStill() {
        SENTENCES.test("hours: 1 to 48: just inside", "thermometer 0 1 0 1", "thermometer 1 1 0 1", "knock 0 9", "ifStill 1 0 = 1000", "ifStill 48 0 = 1000",
            "ifStill 1 3 = 0", "ifStill 48 3 = 0");
        SENTENCES.test("hours: 1 to 48: each of them passes", """
            thermometer 0 1 0 1
            thermometer 0 1 0 1
            thermometer 0 1 0 1
            thermometer 1 9 0 1
            period 1 6
            set 0 10
            knock 3 3000
            ifStill 5 2 = 0
            ifStill 6 2 = 1
            hours 7 0
            count 9 = 1
            """);
        SENTENCES.test("hours: 1 to 48: the 48th passes too, the 49th does not", "thermometer 0 9 0 1", "6 x knock 0 3000", "ifStill 47 3 = 75",
            "ifStill 48 3 = 67", "hours 24 0", "hours 24 0", "ofThermometer 0 4 = 1067");
        SENTENCES.test("0 the mean (NONE if there is none): without thermometers, without a reading in these hours", "ifStill 1 0 = NONE",
            "ifStill 48 0 = NONE", "thermometer 2 1 0 1", "period 2 6", "ifStill 5 0 = NONE", "ifStill 6 0 = 1000");
        SENTENCES.test("0 the mean (NONE if there is none): all are shut out then", "two", "set 1 1", "hour 1000", "knock 1 338",
            "ifStill 1 0 = NONE", "ifStill 1 1 = 3", "ifStill 1 2 = 2");
        SENTENCES.test("if the true temperature stayed as it is: the lowest and the highest", "thermometer 0 1 0 1", "hour -5000", "ifStill 1 0 = -5000",
            "hour 5000", "ifStill 48 0 = 5000");
        SENTENCES.test("what would be after some hours: also beyond the last hour", "thermometer 0 2 0 1", "416 x hours 24 0", "hours 15 0",
            "knock 0 8", "ifStill 1 3 = 4", "ifStill 2 3 = 2", "ifStill 48 0 = 1001", "count 0 = 9999");
    }

    private static void ifStillSpikes() {
        SENTENCES.test("1 the thermometers that are shut out, as a bit mask: none, those of now, and those of then", """
            3 x thermometer 0 1 0 1
            thermometer 1 9 0 1
            thermometer 2 9 0 1
            set 1 1
            ifStill 48 1 = 0
            knock 3 338
            hour 1000
            ifStill 1 1 = 8
            period 2 4
            knock 4 3000
            ifStill 2 1 = 8
            ifStill 3 1 = 24
            count 4 = 8
            """);
        SENTENCES.test("1 the thermometers that are shut out, as a bit mask: with the strikes of now", """
            3 x thermometer 0 1 0 1
            thermometer 0 9 0 1
            knock 3 3000
            hour 1000
            ofThermometer 3 5 = 1
            ifStill 1 1 = 0
            knock 3 3000
            ifStill 1 1 = 8
            count 4 = 0
            """);
        SENTENCES.test("2 the spikes in these hours: none, and not those before", "ifStill 48 2 = 0", "two", "knock 1 338", "ifStill 1 2 = 2",
            "hour 1000", "count 9 = 2", "hour 1000", "ifStill 1 2 = 0", "ifStill 48 2 = 0", "count 9 = 2");
    }

    private static void ifStillDifference() {
        SENTENCES.test("3 the greatest size of a difference (0 without thermometers)", "ifStill 1 3 = 0", "ifStill 48 3 = 0");
        SENTENCES.test("3 the greatest size of a difference: below and above, less its offset", """
            thermometer 0 2 200 1
            thermometer 0 2 -200 1
            thermometer 0 2 0 1
            ifStill 1 3 = 0
            knock 0 -60
            ifStill 1 3 = 30
            knock 1 70
            ifStill 1 3 = 35
            knock 2 -80
            ifStill 1 3 = 40
            """);
        SENTENCES.test("3 the greatest size of a difference: the lag leaves less than itself", "thermometer 0 9 0 1", "knock 0 8", "ifStill 48 3 = 8",
            "knock 0 1", "ifStill 1 3 = 8", "ifStill 48 3 = 8", "knock 0 -18", "ifStill 48 3 = 8");
        SENTENCES.test("3 the greatest size of a difference: also of one that is shut out, or never read", "two", "set 1 1", "knock 1 338",
            "hour 1000", "count 4 = 3", "ifStill 1 3 = 268", "5 x undo", "count 1 = 0", "two", "period 0 6", "period 1 6", "knock 1 900", "ifStill 1 3 = 800");
    }

    private static void ifStillRefuses() {
        SENTENCES.refuses("Throws IllegalArgumentException if hours is out of range: ifStill", "IllegalArgument",
            "ifStill 0 0", "ifStill 49 0", "ifStill -1 3", "ifStill MIN 0", "ifStill MAX 0");
        SENTENCES.refuses("Throws IllegalArgumentException if what is not 0 to 3: ifStill", "IllegalArgument",
            "ifStill 1 -1", "ifStill 48 4", "ifStill 1 MIN", "ifStill 1 MAX");
    }

    private static void stillIn() {
        SENTENCES.test("0 if it does so now: at its final value, and less than its lag beside it", "thermometer 0 9 200 1", "stillIn 0 = 0", "knock 0 8",
            "stillIn 0 = 0", "knock 0 -16", "stillIn 0 = 0");
        SENTENCES.test("Returns the number of hours after which it shows this value: 1", "thermometer 0 9 200 1", "knock 0 9", "stillIn 0 = 1", "undo",
            "knock 0 -9", "stillIn 0 = 1", "hour 1000", "stillIn 0 = 0");
        SENTENCES.test("Returns the number of hours after which it shows this value: the lag 1, from far off", "thermometer 0 1 0 1", "6 x knock 0 3000",
            "stillIn 0 = 1", "hour -5000", "stillIn 0 = 0");
        SENTENCES.test("Returns the number of hours after which it shows this value: 2 to 4", "thermometer 0 4 0 1", "knock 0 5", "stillIn 0 = 2",
            "knock 0 1", "stillIn 0 = 3", "knock 0 1", "stillIn 0 = 4", "knock 0 1", "stillIn 0 = 4");
        SENTENCES.test("if the true temperature stayed as it is: the one of now", "thermometer 0 1 0 1", "thermometer 0 9 0 1", "hour 1081",
            "stillIn 0 = 0", "stillIn 1 = 22", "hours 22 0", "stillIn 1 = 0", "ofThermometer 1 4 = 1073");
        SENTENCES.test("when what it shows does not change any more: the hour before", "thermometer 0 9 0 1", "7 x knock 0 -3000", "stillIn 0 = 71",
            "hours 24 0", "stillIn 0 = 47", "hours 24 0", "stillIn 0 = 23", "hours 22 0", "stillIn 0 = 1", "ofThermometer 0 4 = 991", "hour 1000",
            "stillIn 0 = 0", "ofThermometer 0 4 = 992");
        SENTENCES.test("in how many hours a thermometer would: also beyond the last hour", "thermometer 0 9 0 1", "416 x hours 24 0", "hours 15 0",
            "knock 0 9", "stillIn 0 = 1", "knock 0 2991", "stillIn 0 = 54");
        SENTENCES.refuses("Throws IndexOutOfBoundsException if there is no such thermometer: stillIn", "IndexOutOfBounds",
            "stillIn -1", "stillIn 4", "stillIn MIN", "stillIn MAX");
        SENTENCES.test("Throws IndexOutOfBoundsException if there is no such thermometer: stillIn, just outside", "stillIn 0 ! IndexOutOfBounds",
            "thermometer 0 1 0 1", "stillIn 0 = 0", "stillIn 1 ! IndexOutOfBounds", "9 x thermometer 0 1 0 1", "stillIn 9 = 0",
            "stillIn 10 ! IndexOutOfBounds");
    }

    private static void meanError() {
        SENTENCES.test("0.0 if there are none: without thermometers, without readings, when they were dropped", "meanError = 0.0", "two",
            "meanError = 0.0", "knock 0 9", "meanError = 0.0", "hour 1000", "calibrate 0", "calibrate 1", "meanError = 0.0");
        SENTENCES.test("of one mended temperature: nothing, above and below", "thermometer 0 9 0 1", "hour 1000", "meanError = 0.0", "calibrate 0",
            "knock 0 9", "hour 1000", "meanError = 8.0", "calibrate 0", "knock 0 -9", "hour 1000", "meanError = 8.0");
        SENTENCES.test("The sum of the sizes, divided as doubles: nothing is rounded, nothing cancels", """
            thermometer 0 9 0 1
            thermometer 0 9 0 5
            thermometer 0 9 0 1
            thermometer 0 9 0 1
            knock 0 9
            knock 1 -8
            hour 1000
            meanError = 4.0
            calibrate 1
            calibrate 2
            calibrate 3
            meanError = 8.0
            """);
        SENTENCES.test("The sum of the sizes, divided as doubles: a half", "two", "knock 1 1", "hour 1000", "meanError = 0.5");
        SENTENCES.test("divided by the number of mended temperatures: of those that are shut out too", "two", "set 1 1", "knock 1 338",
            "hour 1000", "count 4 = 3", "meanError = 150.5");
        SENTENCES.test("divided by the number of mended temperatures: ten", "10 x thermometer 0 9 0 5", "knock 9 3", "hour 1000", "meanError = 0.3");
        SENTENCES.test("from the true one: of now, with readings of an earlier hour", "thermometer 0 1 0 1", "hour 1000", "period 0 6", "hour -5000",
            "meanError = 6000.0");
    }

    private static void nothingChanges() {
        SENTENCES.changeNothing("What would be; nothing changes", "ifLag 0 9", "ifLag 2 1", "bestLag 2", "ifStill 1 0", "ifStill 48 1", "ifStill 48 2",
            "ifStill 48 3", "stillIn 2", "meanError");
        SENTENCES.test("What would be; nothing changes: the slope and who is shut out, before and after", "two", "set 1 1", "hours 2 7", "knock 1 3000",
            "count 6 = 8", "ifStill 48 1 = 3", "count 4 = 0", "count 6 = 8", "count 9 = 0", "count 0 = 2", "count 10 = 5");
    }
}
