import java.util.Arrays;

/** The boundary cases that the document's terms name: thermometers, hours, mended temperatures, spikes, means, settings. */
public final class TermsBoundaryTest {
    private static final Sentences SENTENCES = new Sentences("TermsBoundaryTest");

    public static void main(String[] args) {
        none();
        thermometers();
        hours();
        whatIsShown();
        periods();
        readings();
        mendedTemperatures();
        whoIsAsked();
        theMiddle();
        theMiddleInEachOrder();
        whoIsCompared();
        theGreatestDifference();
        strikes();
        shutOut();
        means();
        slopes();
        settings();
        SENTENCES.finish();
    }

    private static void none() {
        SENTENCES.test("NONE = -999999: it is below all temperatures, so it is in no range of them", """
            thermometer 0 9 0 1
            between NONE NONE = 0
            between MIN MAX = 0
            """);
        SENTENCES.test("NONE is below all temperatures: the lowest that can be mended", """
            thermometer 0 9 200 1
            6 x knock 0 3000
            knock 0 800 = 120000
            hour 5000
            reading 0 0 1 = 18356
            12 x knock 0 -3000
            knock 0 -2356 = 80000
            hour -5000
            reading 0 0 1 = -18312
            ofThermometer 0 9 = -311856
            count 5 = -311856
            count 6 = -330012
            count 7 = -311856
            ranked 0 0 = 0
            between NONE -311856 = 1
            between NONE -311857 = 0
            meanError = 306856.0
            """);
        SENTENCES.test("The highest temperature that can be mended", """
            thermometer 0 9 -200 5
            6 x knock 0 -3000
            knock 0 -2800 = 80000
            hour -5000
            reading 0 0 1 = -18356
            12 x knock 0 3000
            knock 0 2356 = 120000
            hour 5000
            ofThermometer 0 9 = 311856
            count 5 = 311856
            count 6 = 330012
            bestLag 0 = 1
            ifLag 0 1 = 18512
            """);
    }

    private static void thermometers() {
        SENTENCES.test("There are at most 10 thermometers, numbered from 0 in the order in which they came", """
            thermometer 0 1 0 1 = 0
            thermometer 3 1 0 1 = 1
            thermometer 2 1 0 1 = 2
            thermometer 1 1 0 1 = 3
            thermometer 0 1 0 1 = 4
            thermometer 3 1 0 1 = 5
            thermometer 2 1 0 1 = 6
            thermometer 1 1 0 1 = 7
            thermometer 0 1 0 1 = 8
            thermometer 3 2 0 1 = 9
            thermometer 1 1 0 1 ! IllegalState
            count 1 = 10
            ofThermometer 1 0 = 3
            ofThermometer 8 0 = 0
            ofThermometer 9 1 = 2
            ofThermometer 10 0 ! IndexOutOfBounds
            """);
        SENTENCES.test("a number is free again when the thermometer is undone, and the new one starts afresh", """
            two
            set 1 1
            knock 1 3000
            hour 1000 = 2
            ofThermometer 1 8 = 1
            4 x undo
            count 1 = 1
            thermometer 2 3 4 5 = 1
            ofThermometer 1 0 = 2
            ofThermometer 1 1 = 3
            ofThermometer 1 2 = 4
            ofThermometer 1 3 = 5
            ofThermometer 1 4 = 1004
            ofThermometer 1 5 = 0
            ofThermometer 1 6 = 0
            ofThermometer 1 7 = 0
            ofThermometer 1 8 = 0
            ofThermometer 1 9 = NONE
            """);
        SENTENCES.test("When it comes, it shows the true temperature of this hour, plus its offset: in the hour 0", """
            thermometer 0 9 0 1
            thermometer 0 9 200 1
            thermometer 0 9 -200 1
            ofThermometer 0 4 = 1000
            ofThermometer 1 4 = 1200
            ofThermometer 2 4 = 800
            """);
        SENTENCES.test("When it comes, it shows the true temperature of this hour, plus its offset: in the lowest and the highest", """
            hour -5000
            thermometer 0 9 -200 1
            ofThermometer 0 4 = -5200
            hour 5000
            thermometer 0 9 200 1
            ofThermometer 1 4 = 5200
            """);
    }

    private static void hours() {
        SENTENCES.test("Hours are numbered from 0", "count 0 = 0", "keep 0 = 0", "hour 0", "count 0 = 1", "keep 0 = 1");
        SENTENCES.test("The true temperature of the hour 0 is 1000", "count 2 = 1000", "hours 1 1 = 1001");
        SENTENCES.test("The number of the hour increases by 1; its true temperature is told", """
            hour -1
            count 0 = 1
            count 2 = -1
            hours 2 3 = 5
            count 0 = 3
            count 2 = 5
            """);
        SENTENCES.test("An hour passes: what is read is what is shown after the change", """
            thermometer 0 2 0 1
            hour 1100 = 1
            reading 0 0 0 = 1
            reading 0 0 1 = 1050
            """);
        SENTENCES.test("An hour passes: spikes are looked for with the readings of this hour, of all rows", """
            thermometer 0 1 0 1
            thermometer 3 1 0 1
            hour 1000 = 2
            hour 2000 = 2
            count 9 = 0
            hour -2000 = 2
            count 9 = 0
            """);
    }

    private static void whatIsShown() {
        SENTENCES.test("What it shows changes by (true temperature + offset - what it shows) / lag: the lag 1", """
            thermometer 0 1 -200 1
            hour 5000
            ofThermometer 0 4 = 4800
            hour -5000
            ofThermometer 0 4 = -5200
            """);
        SENTENCES.test("What it shows changes by (..) / lag, toward zero: less than the lag is nothing", """
            thermometer 0 9 0 1
            hour 1008
            ofThermometer 0 4 = 1000
            hour 1009
            ofThermometer 0 4 = 1001
            hour 993
            ofThermometer 0 4 = 1001
            hour 992
            ofThermometer 0 4 = 1000
            """);
        SENTENCES.test("What it shows changes by (..) / lag, toward zero: just below two lags", """
            thermometer 0 5 50 1
            hour 1009
            ofThermometer 0 4 = 1051
            hour 992
            ofThermometer 0 4 = 1050
            hour 990
            ofThermometer 0 4 = 1048
            """);
        SENTENCES.test("What each thermometer shows changes, also without a reading", """
            thermometer 0 2 0 1
            period 0 6
            hour 1100 = 0
            ofThermometer 0 4 = 1050
            """);
    }

    private static void periods() {
        SENTENCES.test("The period of a row is at first 1", "row 0 0 = 1", "row 1 0 = 1", "row 2 0 = 1", "row 3 0 = 1");
        SENTENCES.test("The rows whose period divides the number of the hour are read: the period 1, each hour", """
            thermometer 0 1 0 1
            hour 0 = 1
            hour 0 = 1
            hour 0 = 1
            row 0 3 = 3
            """);
        SENTENCES.test("The rows whose period divides the number of the hour are read: the period 6, in the hour 6 and the hour 12", """
            thermometer 3 1 0 1
            period 3 6
            hour 0 = 0
            hour 0 = 0
            hour 0 = 0
            hour 0 = 0
            hour 0 = 0
            row 3 3 = 0
            hour 0 = 1
            row 3 3 = 1
            hours 5 0
            row 3 3 = 1
            hour 0 = 1
            row 3 3 = 2
            """);
        SENTENCES.test("The rows whose period divides the number of the hour are read: the period that the row has then", """
            thermometer 1 1 0 1
            period 1 4
            hours 3 0
            period 1 2
            hour 0 = 1
            period 1 3
            hour 0 = 0
            hour 0 = 1
            reading 0 0 0 = 6
            reading 0 1 0 = 4
            """);
        SENTENCES.test("The rows whose period divides the number of the hour are read: of all rows at once", """
            thermometer 0 1 0 1
            thermometer 1 1 0 1
            thermometer 2 1 0 1
            thermometer 3 1 0 1
            thermometer 3 1 0 1
            period 1 2
            period 2 3
            period 3 6
            hour 0 = 1
            hour 0 = 2
            hour 0 = 2
            hour 0 = 2
            hour 0 = 1
            hour 0 = 5
            count 8 = 13
            """);
        SENTENCES.test("When a row is read, each of its thermometers gets a reading: a row without thermometers", """
            thermometer 0 1 0 1
            period 0 2
            hour 0 = 0
            row 1 3 = 1
            row 0 3 = 0
            """);
        SENTENCES.test("When a row is read, each of its thermometers gets a reading: a row with ten", """
            ten
            hour 0 = 10
            count 8 = 10
            ofThermometer 0 7 = 1
            ofThermometer 9 7 = 1
            """);
    }

    private static void readings() {
        SENTENCES.test("The latest 6 readings of each thermometer are kept: none", "thermometer 0 1 0 1", "ofThermometer 0 7 = 0",
            "reading 0 0 0 = NONE", "reading 0 0 1 = NONE");
        SENTENCES.test("The latest 6 readings of each thermometer are kept: one", """
            thermometer 0 1 0 1
            hour 1010
            ofThermometer 0 7 = 1
            reading 0 0 0 = 1
            reading 0 0 1 = 1010
            reading 0 1 0 = NONE
            reading 0 1 1 = NONE
            """);
        SENTENCES.test("The latest 6 readings of each thermometer are kept: six", """
            thermometer 0 1 0 1
            hours 6 10
            ofThermometer 0 7 = 6
            reading 0 0 0 = 6
            reading 0 5 0 = 1
            reading 0 5 1 = 1010
            reading 0 6 0 = NONE
            """);
        SENTENCES.test("The latest 6 readings of each thermometer are kept: the seventh drops the first", """
            thermometer 0 1 0 1
            hours 7 10
            ofThermometer 0 7 = 6
            reading 0 0 0 = 7
            reading 0 0 1 = 1070
            reading 0 5 0 = 2
            reading 0 5 1 = 1020
            reading 0 6 0 = NONE
            reading 0 6 1 = NONE
            count 8 = 7
            """);
        SENTENCES.test("The latest 6 readings of each thermometer are kept: of each its own", """
            thermometer 0 1 0 1
            hours 6 0
            thermometer 0 1 7 1
            hour 900
            ofThermometer 0 7 = 6
            ofThermometer 1 7 = 1
            reading 1 0 1 = 907
            reading 0 0 1 = 900
            """);
    }

    private static void mendedTemperatures() {
        SENTENCES.test("Without a reading there is none", "thermometer 0 3 0 1", "ofThermometer 0 9 = NONE", "knock 0 5",
            "ofThermometer 0 9 = NONE", "hour 0", "ofThermometer 0 9 = 670", "calibrate 0", "ofThermometer 0 9 = NONE");
        SENTENCES.test("If only one reading is kept, it is its value minus the offset", """
            thermometer 0 9 200 1
            thermometer 0 9 -200 1
            hour 1900
            ofThermometer 0 4 = 1300
            ofThermometer 0 9 = 1100
            ofThermometer 1 4 = 900
            ofThermometer 1 9 = 1100
            """);
        SENTENCES.test("It is told by its latest two readings that are kept: of two", """
            thermometer 0 4 10 1
            hour 1400
            hour 1400
            reading 0 1 1 = 1110
            reading 0 0 1 = 1185
            ofThermometer 0 9 = 1400
            """);
        SENTENCES.test("It is told by its latest two readings that are kept: of seven", """
            thermometer 0 2 0 1
            hours 5 500
            hour 1000
            hour 1000
            reading 0 1 1 = 2008
            reading 0 0 1 = 1504
            ofThermometer 0 9 = 1000
            """);
        SENTENCES.test("They are n hours apart: 6", """
            thermometer 0 4 0 1
            period 0 6
            hours 6 0
            knock 0 -400
            hours 6 0
            reading 0 0 1 = 928
            reading 0 1 1 = 1000
            ofThermometer 0 9 = 892
            """);
        SENTENCES.test("They are n hours apart: more than 6, as the period changed", """
            thermometer 0 5 0 1
            period 0 6
            hours 6 0
            hours 5 0
            period 0 5
            hours 3 0
            period 0 6
            knock 0 -130
            hours 4 0
            reading 0 0 0 = 18
            reading 0 1 0 = 6
            reading 0 0 1 = 945
            ofThermometer 0 9 = 927
            """);
        SENTENCES.test("Divisions round toward zero: a mended temperature that rises, and one that falls", """
            thermometer 0 2 0 1
            thermometer 0 2 0 1
            period 0 2
            hours 2 0
            knock 0 3
            knock 1 -3
            hours 2 0
            reading 0 0 1 = 1001
            reading 1 0 1 = 999
            ofThermometer 0 9 = 1001
            ofThermometer 1 9 = 999
            """);
        SENTENCES.test("With the lag 1 it differs from the true temperature by less than 1: by nothing", """
            thermometer 0 1 200 1
            hour -5000
            ofThermometer 0 9 = -5000
            hour 5000
            ofThermometer 0 9 = 5000
            hour 4999
            ofThermometer 0 9 = 4999
            """);
        SENTENCES.test("It differs from the true temperature by less than the lag: the lag 9", """
            thermometer 0 9 0 1
            hour 1000
            hour 1008
            ofThermometer 0 9 = 1000
            hour 992
            ofThermometer 0 9 = 1000
            hour 1009
            ofThermometer 0 9 = 1009
            """);
    }

    private static void whoIsAsked() {
        SENTENCES.test("The thermometers that have a mended temperature are asked: none without a reading", "two", "count 3 = 0");
        SENTENCES.test("The thermometers that have a mended temperature are asked: with one reading", """
            thermometer 0 1 0 1
            thermometer 1 1 0 1
            thermometer 0 1 0 1
            period 1 2
            hour 1000
            count 3 = 5
            hour 1000
            count 3 = 7
            calibrate 2
            count 3 = 3
            """);
        SENTENCES.test("The thermometers that are not shut out are asked; all ten", "ten", "hour 1000", "count 3 = 1023", "count 4 = 0");
        SENTENCES.test("The thermometers that are shut out are not asked; all of two", "two", "set 1 1", "knock 1 338", "hour 1000",
            "count 3 = 0", "count 4 = 3");
    }

    /** Of each number of thermometers, in several orders; the steps of 7 and 3 meet all of ten numbers. */
    private static void theMiddleInEachOrder() {
        for (int number = 1; number <= 10; number++) {
            for (int start = 0; start < 10; start++) {
                int[] mended = new int[number];
                StringBuilder script = new StringBuilder(number + " x thermometer 0 9 0 1\n");
                for (int i = 0; i < number; i++) {
                    int place = (start + i * (start % 2 == 0 ? 7 : 3)) % 10;
                    mended[i] = 1000 + 8 * place;
                    script.append("knock ").append(i).append(' ').append(9 * place).append('\n');
                }
                Arrays.sort(mended);
                script.append("hour 1000\ncount 7 = ").append(mended[(number - 1) / 2]);
                SENTENCES.test("The middle of some temperatures, in ascending order: of " + number + ", from " + start, script.toString());
            }
        }
    }

    private static void theMiddle() {
        SENTENCES.test("The middle of none: there is none", "count 7 = NONE", "two", "count 7 = NONE");
        SENTENCES.test("The middle is the one with the index (number - 1) / 2: of one", "thermometer 0 9 0 1", "knock 0 9", "hour 1000",
            "count 7 = 1008");
        SENTENCES.test("The middle is the one with the index (number - 1) / 2: of two the lower one", "two", "knock 1 -9", "hour 1000",
            "count 7 = 992", "calibrate 1", "knock 1 9", "hour 1000", "count 7 = 1000");
        SENTENCES.test("The middle is the one with the index (number - 1) / 2: of three the second one", """
            3 x thermometer 0 9 0 1
            knock 0 18
            knock 2 9
            hour 1000
            count 7 = 1008
            """);
        SENTENCES.test("The middle is the one with the index (number - 1) / 2: of ten the fifth one", """
            10 x thermometer 0 9 0 1
            knock 0 81
            knock 1 72
            knock 2 63
            knock 3 54
            knock 4 45
            knock 5 36
            knock 6 27
            knock 7 18
            knock 8 9
            hour 1000
            count 7 = 1032
            """);
        SENTENCES.test("It is compared with the middle of all others: of one other", """
            thermometer 0 1 0 1
            thermometer 0 9 0 1
            knock 1 338
            hour 1000
            ofThermometer 0 8 = 1
            ofThermometer 1 8 = 1
            """);
        SENTENCES.test("It is compared with the middle of all others: of two others the lower one", """
            thermometer 0 1 0 1
            thermometer 0 9 0 1
            thermometer 0 9 0 1
            knock 1 338
            knock 2 338
            hour 1000
            ofThermometer 0 8 = 1
            ofThermometer 1 8 = 1
            ofThermometer 2 8 = 1
            """);
        SENTENCES.test("It is compared with the middle of all others: itself is no other", """
            thermometer 0 1 0 1
            thermometer 0 1 0 1
            thermometer 0 9 0 1
            knock 2 338
            hour 1000
            ofThermometer 0 8 = 0
            ofThermometer 1 8 = 0
            ofThermometer 2 8 = 1
            """);
        SENTENCES.test("It is compared with the middle of all others: of nine others the fifth one", """
            10 x thermometer 0 9 0 1
            set 0 10
            knock 0 -900
            knock 1 -900
            knock 2 -900
            knock 3 -900
            knock 5 900
            knock 6 900
            knock 7 900
            knock 8 900
            knock 9 9
            hour 1000 = 10
            ofThermometer 9 8 = 0
            ofThermometer 4 8 = 0
            count 9 = 8
            count 7 = 1000
            """);
    }

    private static void whoIsCompared() {
        SENTENCES.test("If a row was read, spikes are looked for: not if no row was read", """
            two
            period 0 2
            period 1 2
            period 2 2
            period 3 2
            knock 1 3000
            hour 1000 = 0
            count 9 = 0
            hour 1000 = 2
            count 9 = 2
            """);
        SENTENCES.test("Who got a reading in this hour is compared: not who got one in an earlier hour", """
            thermometer 0 1 0 1
            thermometer 1 1 0 1
            hour 1000 = 2
            period 1 6
            hour 1301 = 1
            ofThermometer 0 8 = 1
            ofThermometer 0 5 = 1
            ofThermometer 1 8 = 0
            ofThermometer 1 5 = 0
            count 9 = 1
            """);
        SENTENCES.test("Who got a reading in this hour is compared: a row without thermometers alone is read", """
            thermometer 0 1 0 1
            thermometer 1 1 0 1
            hour 1000
            period 0 6
            hour 2000 = 1
            ofThermometer 1 5 = 1
            period 1 6
            hour 2000 = 0
            ofThermometer 1 5 = 1
            count 9 = 1
            """);
        SENTENCES.test("All others that are asked are in the middle, with and without a reading in this hour", """
            thermometer 0 1 0 1
            thermometer 1 1 0 1
            thermometer 1 1 0 1
            hour 1000
            period 1 6
            hour 1300
            count 9 = 0
            hour 1301
            count 9 = 1
            """);
        SENTENCES.test("Others without a mended temperature are not asked", """
            thermometer 0 1 0 1
            thermometer 1 1 0 1
            period 1 6
            hour 5000 = 1
            count 9 = 0
            ofThermometer 0 5 = 0
            """);
        SENTENCES.test("Others that are shut out are not asked", """
            two
            thermometer 0 1 0 1
            thermometer 3 1 0 1
            set 1 1
            knock 1 -3000
            hour 1000 = 4
            count 4 = 2
            calibrate 3
            period 3 6
            hour 1000 = 3
            count 3 = 5
            count 9 = 1
            """);
        SENTENCES.test("Without others it is not compared: one alone", "thermometer 0 9 0 1", "knock 0 3000", "set 1 1", "hour 1000 = 1",
            "count 9 = 0", "count 4 = 0");
        SENTENCES.test("Without others it is not compared, and its strikes stay", """
            thermometer 0 1 0 1
            thermometer 1 9 0 1
            set 1 3
            knock 1 338
            hour 1000 = 2
            ofThermometer 1 5 = 1
            calibrate 0
            period 0 6
            set 1 1
            hour 1000 = 1
            count 3 = 2
            ofThermometer 1 5 = 1
            ofThermometer 1 8 = 1
            ofThermometer 1 6 = 0
            """);
        SENTENCES.test("Who is shut out is not compared: no spike more, and its strikes stay", """
            thermometer 0 1 0 1
            thermometer 0 1 0 1
            thermometer 0 9 0 1
            set 1 1
            knock 2 338
            hour 1000 = 3
            ofThermometer 2 6 = 1
            ofThermometer 2 5 = 1
            hour 1000 = 3
            ofThermometer 2 5 = 1
            ofThermometer 2 8 = 1
            count 9 = 1
            """);
    }

    /** Three show the truth, and 3 is off: after a knock of k the lag 9 leaves k - k / 9 of it. */
    private static String oneOff(int difference, int knock) {
        return "set 0 " + difference + "\n 3 x thermometer 0 1 0 1 \n thermometer 0 9 0 1 \n knock 3 " + knock + "\n hour 1000";
    }

    private static void theGreatestDifference() {
        int[][] knocks = {{10, 11, 12}, {300, 337, 338}, {2000, 2250, 2251}};
        for (int[] of : knocks) {
            for (int sign = -1; sign <= 1; sign += 2) {
                int far = sign * of[0];
                SENTENCES.test("If the size of the difference is greater than the setting 0, this is a spike: " + far + " is none",
                    oneOff(of[0], sign * of[1]), "ofThermometer 3 9 = " + (1000 + far), "ofThermometer 3 8 = 0", "ofThermometer 3 5 = 0",
                    "count 9 = 0");
                far = sign * (of[0] + 1);
                SENTENCES.test("If the size of the difference is greater than the setting 0, this is a spike, and it gets a strike: " + far,
                    oneOff(of[0], sign * of[2]), "ofThermometer 3 9 = " + (1000 + far), "ofThermometer 3 8 = 1", "ofThermometer 3 5 = 1",
                    "count 9 = 1");
            }
        }
    }

    private static void strikes() {
        SENTENCES.test("Otherwise its strikes become 0", """
            thermometer 0 1 0 1
            thermometer 0 1 0 1
            thermometer 0 9 0 1
            set 1 5
            knock 2 3000
            hour 1000
            knock 2 3000
            hour 1000
            ofThermometer 2 5 = 2
            hour 1000
            ofThermometer 2 9 = 1007
            ofThermometer 2 5 = 0
            ofThermometer 2 8 = 2
            ofThermometer 2 6 = 0
            """);
        SENTENCES.test("with at least as many strikes as the setting 1 tells: the first strike of 1", """
            thermometer 0 1 0 1
            thermometer 0 1 0 1
            thermometer 0 9 0 1
            set 1 1
            knock 2 338
            hour 1000
            ofThermometer 2 5 = 1
            ofThermometer 2 6 = 1
            count 4 = 4
            """);
        SENTENCES.test("with at least as many strikes as the setting 1 tells: the second strike of 2, as it is at first", """
            thermometer 0 1 0 1
            thermometer 0 1 0 1
            thermometer 0 9 0 1
            knock 2 3000
            hour 1000
            ofThermometer 2 5 = 1
            ofThermometer 2 6 = 0
            knock 2 3000
            hour 1000
            ofThermometer 2 5 = 2
            ofThermometer 2 6 = 1
            """);
        SENTENCES.test("with at least as many strikes as the setting 1 tells: the fourth and the fifth strike of 5", """
            thermometer 0 1 0 1
            thermometer 0 1 0 1
            thermometer 0 9 0 1
            set 1 5
            knock 2 3000
            hour 1000
            knock 2 3000
            hour 1000
            knock 2 3000
            hour 1000
            knock 2 3000
            hour 1000
            ofThermometer 2 5 = 4
            ofThermometer 2 6 = 0
            count 4 = 0
            knock 2 3000
            hour 1000
            ofThermometer 2 5 = 5
            ofThermometer 2 6 = 1
            count 4 = 4
            count 9 = 5
            """);
        SENTENCES.test("with at least as many strikes as the setting 1 tells: with more, as the setting changed", """
            thermometer 0 1 0 1
            thermometer 0 1 0 1
            thermometer 0 9 0 1
            set 1 5
            knock 2 3000
            hour 1000
            knock 2 3000
            hour 1000
            set 1 1
            ofThermometer 2 6 = 0
            knock 2 3000
            hour 1000
            ofThermometer 2 5 = 3
            ofThermometer 2 6 = 1
            """);
    }

    private static void shutOut() {
        SENTENCES.test("All of them are compared first: two are shut out by one another", "two", "set 1 1", "knock 1 338", "hour 1000 = 2",
            "ofThermometer 0 6 = 1", "ofThermometer 1 6 = 1", "count 9 = 2");
        SENTENCES.test("All of them are compared first: who is shut out now is still one of the others", """
            3 x thermometer 0 9 0 1
            set 1 1
            knock 0 -450
            knock 2 225
            hour 1000
            ofThermometer 0 9 = 600
            ofThermometer 1 9 = 1000
            ofThermometer 2 9 = 1200
            count 9 = 3
            count 4 = 7
            """);
        SENTENCES.test("Of those that were compared: not who has the strikes but no reading in this hour", """
            thermometer 0 1 0 1
            thermometer 0 1 0 1
            thermometer 1 9 0 1
            set 1 5
            knock 2 338
            hour 1000
            ofThermometer 2 5 = 1
            set 1 1
            period 1 6
            hour 1000 = 2
            ofThermometer 2 5 = 1
            ofThermometer 2 6 = 0
            count 4 = 0
            """);
        SENTENCES.test("Of those that were compared: not who has no strike any more", """
            thermometer 0 1 0 1
            thermometer 0 1 0 1
            thermometer 0 9 0 1
            set 1 5
            knock 2 338
            hour 1000
            ofThermometer 2 5 = 1
            set 1 1
            set 0 2000
            hour 1000
            ofThermometer 2 5 = 0
            ofThermometer 2 6 = 0
            """);
        SENTENCES.test("A thermometer that is shut out still gets readings", """
            two
            set 1 1
            knock 1 338
            hour 1000 = 2
            count 4 = 3
            hour 1000 = 2
            count 8 = 4
            ofThermometer 0 7 = 2
            ofThermometer 1 7 = 2
            count 4 = 3
            """);
        SENTENCES.test("It is asked again when it is calibrated", """
            two
            set 1 1
            knock 1 338
            hour 1000
            count 4 = 3
            calibrate 0 = 1
            count 4 = 2
            count 3 = 0
            hour 1000 = 2
            count 3 = 1
            calibrate 1 = 1
            hour 1000 = 2
            count 3 = 3
            count 4 = 0
            """);
        SENTENCES.test("It is asked again when it is calibrated, and not by a setting or by hours", """
            two
            set 1 1
            knock 1 338
            hour 1000
            set 1 5
            set 0 2000
            hours 24 0
            count 4 = 3
            """);
    }

    private static void means() {
        SENTENCES.test("There is none if no thermometer is asked: without thermometers", "count 5 = NONE");
        SENTENCES.test("There is none if no thermometer is asked: without readings", "two", "count 5 = NONE");
        SENTENCES.test("There is none if no thermometer is asked: all are shut out", "two", "set 1 1", "knock 1 338", "hour 1000", "count 5 = NONE");
        SENTENCES.test("The mean of one that is asked", "thermometer 0 9 0 5", "knock 0 9", "hour 1000", "count 5 = 1008");
        SENTENCES.test("The mean: each times its weight, 1 and 5", """
            thermometer 0 1 0 1
            thermometer 0 9 0 5
            knock 1 9
            hour 1000
            count 5 = 1006
            """);
        SENTENCES.test("The mean: only who is asked, with its weight alone", """
            thermometer 0 1 0 1
            thermometer 0 9 0 5
            thermometer 1 9 0 3
            period 1 2
            knock 1 9
            knock 2 9
            hour 1000
            count 5 = 1006
            """);
        SENTENCES.test("The mean: without who is shut out", """
            3 x thermometer 0 1 0 1
            thermometer 0 9 0 5
            set 1 1
            knock 3 338
            hour 1000
            count 4 = 8
            count 5 = 1000
            calibrate 3
            knock 3 9
            hour 1000
            count 5 = 1005
            """);
        SENTENCES.test("The mean of ten with the greatest weight", "10 x thermometer 0 1 0 5", "hour 5000", "count 5 = 5000", "hour -5000",
            "count 5 = -5000");
        SENTENCES.test("Divisions round toward zero: a mean above and one below zero", """
            thermometer 0 1 0 1
            thermometer 0 9 0 1
            hour 0
            calibrate 1
            knock 1 3
            hour 0
            ofThermometer 1 9 = 3
            count 5 = 1
            calibrate 1
            knock 1 -3
            hour 0
            ofThermometer 1 9 = -3
            count 5 = -1
            """);
    }

    private static void slopes() {
        SENTENCES.test("The slope: there is none if no hour has passed", "count 6 = NONE", "two", "count 6 = NONE");
        SENTENCES.test("The slope: there is none if there was no mean just before the latest hour passed", "two", "hour 1000",
            "count 5 = 1000", "count 6 = NONE");
        SENTENCES.test("The slope: there is none if there is no mean now", "thermometer 0 1 0 1", "hour 1000", "hour 1005", "count 6 = 5",
            "calibrate 0", "count 6 = NONE");
        SENTENCES.test("The slope: there is none if all were shut out in the latest hour", "two", "set 1 1", "hour 1000", "knock 1 3000",
            "hour 1000", "count 4 = 3", "count 6 = NONE");
        SENTENCES.test("The slope is the mean minus the mean that there was: rising, level, falling", """
            thermometer 0 1 0 1
            hour 1000
            hour 1005
            count 6 = 5
            hour 1005
            count 6 = 0
            hour 1002
            count 6 = -3
            """);
        SENTENCES.test("The slope: just before the latest hour passed, also of several hours in one call", "thermometer 0 1 0 1", "hours 3 7",
            "count 6 = 7", "hours 24 2", "count 6 = 2");
        SENTENCES.test("The slope: just before the latest hour passed, not just after the one before", """
            thermometer 0 1 0 1
            thermometer 0 9 0 1
            hour 1000
            knock 1 9
            hour 1000
            count 5 = 1036
            calibrate 1
            count 5 = 1000
            hour 1000
            count 6 = 0
            """);
        SENTENCES.test("The slope: an hour without a reading passed too", "thermometer 0 1 0 1", "hour 1000", "hour 1005", "period 0 6",
            "hour 1500", "count 6 = 0");
    }

    private static void settings() {
        SENTENCES.test("Settings 0: at first 300", "count 12 = 300", "set 0 300 = 300");
        SENTENCES.test("Settings 1: at first 2", "count 13 = 2", "set 1 2 = 2");
    }
}
