/**
 * Thermometers that lag behind, read in rows. What each call does is told by the
 * promises of the document; the constructor makes all that the calls ever need, so
 * that a call makes no objects but the exception that it throws.
 */
public final class LateThermometers {

    /** There is no such number; it is below all temperatures. */
    public static final int NONE = -999999;

    private static final int MOST_THERMOMETERS = 10;
    private static final int ROWS = 4;
    private static final int LONGEST_LAG = 9;
    private static final int LARGEST_OFFSET = 200;
    private static final int GREATEST_WEIGHT = 5;
    private static final int LONGEST_PERIOD = 6;
    private static final int MOST_READINGS = 6;

    private static final int FIRST_TEMPERATURE = 1000;
    private static final int EXTREME_TEMPERATURE = 5000;
    private static final int EXTREME_SHOWN = 20000;
    private static final int SHOWN_IN_ANSWERS = 100000;
    private static final int LARGEST_KNOCK = 3000;
    private static final int LARGEST_CHANGE = 500;
    private static final int HUNDREDTHS = 100;

    private static final int LAST_HOUR = 9999;
    private static final int MOST_HOURS_AT_ONCE = 24;
    private static final int MOST_HOURS_AHEAD = 48;
    /** Far above the hours that the slowest thermometer needs to stand still. */
    private static final int ENOUGH_HOURS = 100000;

    private static final int LEAST_DIFFERENCE = 10;
    private static final int GREATEST_DIFFERENCE = 2000;
    private static final int MOST_STRIKES = 5;

    private static final int MOST_CHARACTERS = 60;
    private static final int FIRST_CODE = 33;
    private static final int LAST_CODE = 126;
    private static final int MOST_SAVED = 6;

    private static final int BY_TEMPERATURE = 0;
    private static final int BY_ERROR = 1;
    private static final int NOBODY = -1;

    private final Place now = new Place();
    private final Place trial = new Place();
    private final History history = new History();
    private final Snapshot firstSnapshot = new Snapshot();
    private final Snapshot secondSnapshot = new Snapshot();
    private final OrderText text = new OrderText();

    public LateThermometers() {
    }

    // ---- thermometers and hours

    public int thermometer(int row, int lag, int offset, int weight)
            throws IndexOutOfBoundsException, IllegalArgumentException, IllegalStateException {
        checkRow(row);
        checkRange(lag, 1, LONGEST_LAG);
        checkRange(offset, -LARGEST_OFFSET, LARGEST_OFFSET);
        checkRange(weight, 1, GREATEST_WEIGHT);
        if (!now.hasRoom()) {
            throw new IllegalStateException("there are 10 thermometers");
        }
        history.save(now);
        return now.add(row, lag, offset, weight);
    }

    public int hour(int temperature) throws IllegalArgumentException, IllegalStateException {
        checkRange(temperature, -EXTREME_TEMPERATURE, EXTREME_TEMPERATURE);
        checkHoursLeft(1);
        history.save(now);
        return now.passHour(temperature);
    }

    public int hours(int hours, int change) throws IllegalArgumentException, IllegalStateException {
        checkRange(hours, 1, MOST_HOURS_AT_ONCE);
        checkRange(change, -LARGEST_CHANGE, LARGEST_CHANGE);
        checkHoursLeft(hours);
        history.save(now);
        now.passHours(hours, change);
        return now.temperature;
    }

    public int period(int row, int period) throws IndexOutOfBoundsException, IllegalArgumentException {
        checkRow(row);
        checkRange(period, 1, LONGEST_PERIOD);
        history.save(now);
        int previous = now.periodOf(row);
        now.changePeriod(row, period);
        return previous;
    }

    public int calibrate(int thermometer) throws IndexOutOfBoundsException {
        checkThermometer(thermometer);
        history.save(now);
        int strikes = now.at(thermometer).strikes;
        now.at(thermometer).startAfresh(now.temperature);
        return strikes;
    }

    public int knock(int thermometer, int change)
            throws IndexOutOfBoundsException, IllegalArgumentException, IllegalStateException {
        checkThermometer(thermometer);
        checkRange(change, -LARGEST_KNOCK, LARGEST_KNOCK);
        int shown = now.at(thermometer).shown + change;
        if (shown < -EXTREME_SHOWN || shown > EXTREME_SHOWN) {
            throw new IllegalStateException("no thermometer shows this");
        }
        history.save(now);
        now.at(thermometer).shown = shown;
        return shown + SHOWN_IN_ANSWERS;
    }

    public int set(int setting, int value) throws IndexOutOfBoundsException, IllegalArgumentException {
        if (setting != 0 && setting != 1) {
            throw new IndexOutOfBoundsException("there is no such setting");
        }
        checkRange(value, setting == 0 ? LEAST_DIFFERENCE : 1, setting == 0 ? GREATEST_DIFFERENCE : MOST_STRIKES);
        history.save(now);
        int previous = setting == 0 ? now.difference : now.strikesToShutOut;
        if (setting == 0) {
            now.difference = value;
        } else {
            now.strikesToShutOut = value;
        }
        return previous;
    }

    // ---- order text

    public int append(int code) throws IllegalArgumentException, IllegalStateException {
        checkRange(code, FIRST_CODE, LAST_CODE);
        if (text.isFull()) {
            throw new IllegalStateException("the buffer holds 60 characters");
        }
        text.addCharacter((char) code);
        return text.length;
    }

    public int clearBuffer() {
        int length = text.length;
        text.length = 0;
        return length;
    }

    public int firstError() {
        return text.indexOfError();
    }

    public int execute() throws IllegalArgumentException {
        if (!text.isComplete()) {
            throw new IllegalArgumentException("the buffer is not a complete order text");
        }
        history.save(now);
        int executed = 0;
        text.goToStart();
        while (executed < MOST_CHARACTERS && text.readNextOrder() && carriesOut()) {
            executed++;
        }
        text.length = 0;
        return executed;
    }

    // ---- undo and snapshots

    public int undo() throws IllegalStateException {
        if (history.size == 0) {
            throw new IllegalStateException("no state is saved");
        }
        history.restoreLatest(now);
        return history.size;
    }

    public int keep(int slot) throws IllegalArgumentException {
        checkRange(slot, 0, 1);
        snapshotIn(slot).take(now);
        return now.hour;
    }

    public int goBack(int slot) throws IllegalArgumentException, IllegalStateException {
        checkRange(slot, 0, 1);
        if (!snapshotIn(slot).taken) {
            throw new IllegalStateException("the slot is empty");
        }
        history.save(now);
        now.copyFrom(snapshotIn(slot).place);
        return now.hour;
    }

    // ---- queries; nothing changes

    public int ofThermometer(int thermometer, int what) throws IndexOutOfBoundsException, IllegalArgumentException {
        checkThermometer(thermometer);
        checkRange(what, 0, 9);
        return now.at(thermometer).numberOf(what);
    }

    public int reading(int thermometer, int ago, int what)
            throws IndexOutOfBoundsException, IllegalArgumentException {
        checkThermometer(thermometer);
        checkNotNegative(ago);
        checkRange(what, 0, 1);
        Thermometer asked = now.at(thermometer);
        return what == 0 ? asked.hourAgo(ago) : asked.valueAgo(ago);
    }

    public int row(int row, int what) throws IndexOutOfBoundsException, IllegalArgumentException {
        checkRow(row);
        checkRange(what, 0, 3);
        switch (what) {
            case 0: return now.periodOf(row);
            case 1: return now.countInRow(row);
            case 2: return now.hoursUntilRead(row);
            default: return now.timesReadOf(row);
        }
    }

    public int count(int what) throws IllegalArgumentException {
        checkRange(what, 0, 13);
        switch (what) {
            case 0: return now.hour;
            case 1: return now.size;
            case 2: return now.temperature;
            case 3: return now.maskOfAsked();
            case 4: return now.maskOfShutOut();
            case 5: return now.mean();
            case 6: return now.slope();
            case 7: return now.middleWithout(NOBODY);
            case 8: return now.readings;
            case 9: return now.spikes;
            case 10: return history.size;
            case 11: return text.length;
            case 12: return now.difference;
            default: return now.strikesToShutOut;
        }
    }

    public int ranked(int how, int rank) throws IllegalArgumentException {
        checkRange(how, BY_TEMPERATURE, BY_ERROR);
        checkNotNegative(rank);
        return now.atRank(how, rank);
    }

    public int between(int from, int to) {
        return now.countMendedIn(from, to);
    }

    // ---- what would be; nothing changes

    public int ifLag(int thermometer, int lag) throws IndexOutOfBoundsException, IllegalArgumentException {
        checkThermometer(thermometer);
        checkRange(lag, 1, LONGEST_LAG);
        return now.at(thermometer).mendedWith(lag);
    }

    public int bestLag(int thermometer) throws IndexOutOfBoundsException {
        checkThermometer(thermometer);
        return now.at(thermometer).lagNearestTo(now.temperature);
    }

    public int ifStill(int hours, int what) throws IllegalArgumentException {
        checkRange(hours, 1, MOST_HOURS_AHEAD);
        checkRange(what, 0, 3);
        trial.copyFrom(now);
        trial.passHours(hours, 0);
        switch (what) {
            case 0: return trial.mean();
            case 1: return trial.maskOfShutOut();
            case 2: return trial.spikes - now.spikes;
            default: return trial.greatestDistance();
        }
    }

    public int stillIn(int thermometer) throws IndexOutOfBoundsException {
        checkThermometer(thermometer);
        return now.at(thermometer).hoursUntilStill(now.temperature);
    }

    public double meanError() {
        int number = now.countMended();
        return number == 0 ? 0.0 : (double) now.sumOfErrors() / (double) number;
    }

    // ---- what the calls above share

    private static void checkRow(int row) {
        if (row < 0 || row >= ROWS) {
            throw new IndexOutOfBoundsException("there is no such row");
        }
    }

    private static void checkRange(int number, int least, int most) {
        if (number < least || number > most) {
            throw new IllegalArgumentException("an argument is out of range");
        }
    }

    private static void checkNotNegative(int number) {
        if (number < 0) {
            throw new IllegalArgumentException("an argument is negative");
        }
    }

    private void checkThermometer(int thermometer) {
        if (!now.has(thermometer)) {
            throw new IndexOutOfBoundsException("there is no such thermometer");
        }
    }

    private void checkHoursLeft(int hours) {
        if (!now.hasHoursLeft(hours)) {
            throw new IllegalStateException("the hour would be greater than 9999");
        }
    }

    private Snapshot snapshotIn(int slot) {
        return slot == 0 ? firstSnapshot : secondSnapshot;
    }

    /** Carries out the order that was read last; false, with nothing changed, if its method would throw. */
    private boolean carriesOut() {
        switch (text.kind) {
            case OrderText.ADDS_THERMOMETER:
                if (!now.hasRoom()) {
                    return false;
                }
                now.add(text.row, text.number, 0, text.weight);
                return true;
            case OrderText.PASSES_HOUR:
                if (!now.hasHoursLeft(1)) {
                    return false;
                }
                now.passHour(text.number * HUNDREDTHS);
                return true;
            case OrderText.CHANGES_PERIOD:
                now.changePeriod(text.row, text.number);
                return true;
            default:
                if (!now.has(text.number)) {
                    return false;
                }
                now.at(text.number).startAfresh(now.temperature);
                return true;
        }
    }

    /** Rounds toward zero. The divisor 0 never comes; it has an answer so that nothing can throw here. */
    private static int quotient(int number, int divisor) {
        return divisor == 0 ? 0 : number / divisor;
    }

    private static int remainder(int number, int divisor) {
        return divisor == 0 ? 0 : number % divisor;
    }

    private static int entry(int[] numbers, int index) {
        return index >= 0 && index < numbers.length ? numbers[index] : NONE;
    }

    private static void copyInto(int[] target, int[] source) {
        for (int i = 0; i < target.length && i < source.length; i++) {
            target[i] = source[i];
        }
    }

    /** Puts a number first; all others move on by one, and the last one drops out. */
    private static void putFirst(int[] numbers, int number) {
        for (int i = numbers.length - 1; i > 0; i--) {
            numbers[i] = numbers[i - 1];
        }
        if (numbers.length > 0) {
            numbers[0] = number;
        }
    }

    /** One thermometer with the readings that it keeps. */
    private static final class Thermometer {
        /** The latest reading comes first. */
        private final int[] readingHours = new int[MOST_READINGS];
        private final int[] readingValues = new int[MOST_READINGS];
        private int kept;
        private int lag = 1;
        private int offset;
        int row;
        int weight = 1;
        int shown;
        int strikes;
        int spikes;
        boolean shutOut;
        /** NONE if there is none; it changes with the readings alone. */
        int mended = NONE;

        /** Makes it a new one: what the object was before undo or goBack may still stand in it. */
        void begin(int itsRow, int itsLag, int itsOffset, int itsWeight, int temperature) {
            row = itsRow;
            lag = itsLag;
            offset = itsOffset;
            weight = itsWeight;
            spikes = 0;
            startAfresh(temperature);
        }

        void startAfresh(int temperature) {
            shown = temperature + offset;
            kept = 0;
            mended = NONE;
            strikes = 0;
            shutOut = false;
        }

        void copyFrom(Thermometer other) {
            copyInto(readingHours, other.readingHours);
            copyInto(readingValues, other.readingValues);
            kept = other.kept;
            lag = other.lag;
            offset = other.offset;
            shutOut = other.shutOut;
            row = other.row;
            weight = other.weight;
            shown = other.shown;
            strikes = other.strikes;
            spikes = other.spikes;
            mended = other.mended;
        }

        void follow(int temperature) {
            shown += stepFrom(shown, temperature);
        }

        private int stepFrom(int from, int temperature) {
            return quotient(temperature + offset - from, lag);
        }

        int hoursUntilStill(int temperature) {
            int from = shown;
            for (int hours = 0; hours < ENOUGH_HOURS; hours++) {
                int step = stepFrom(from, temperature);
                if (step == 0) {
                    return hours;
                }
                from += step;
            }
            return ENOUGH_HOURS;
        }

        void takeReading(int hour) {
            putFirst(readingHours, hour);
            putFirst(readingValues, shown);
            kept = Math.min(kept + 1, MOST_READINGS);
            mended = mendedWith(lag);
        }

        int hourAgo(int ago) {
            return ago < kept ? entry(readingHours, ago) : NONE;
        }

        int valueAgo(int ago) {
            return ago < kept ? entry(readingValues, ago) : NONE;
        }

        boolean hasMended() {
            return kept > 0;
        }

        boolean isAsked() {
            return kept > 0 && !shutOut;
        }

        boolean isAskedAndReadIn(int hour) {
            return isAsked() && hourAgo(0) == hour;
        }

        int mendedWith(int someLag) {
            if (kept == 0) {
                return NONE;
            }
            int latest = entry(readingValues, 0);
            if (kept == 1) {
                return latest - offset;
            }
            int rise = latest - entry(readingValues, 1);
            int hoursApart = entry(readingHours, 0) - entry(readingHours, 1);
            return latest + quotient(rise * (someLag - 1), hoursApart) - offset;
        }

        int lagNearestTo(int temperature) {
            if (!hasMended()) {
                return NONE;
            }
            int best = 1;
            int leastError = Math.abs(mendedWith(best) - temperature);
            for (int other = 2; other <= LONGEST_LAG; other++) {
                int otherError = Math.abs(mendedWith(other) - temperature);
                if (otherError < leastError) {
                    best = other;
                    leastError = otherError;
                }
            }
            return best;
        }

        int error(int temperature) {
            return Math.abs(mended - temperature);
        }

        int distance(int temperature) {
            return Math.abs(shown - offset - temperature);
        }

        void compareWith(int middle, int difference) {
            if (Math.abs(mended - middle) > difference) {
                spikes++;
                strikes++;
            } else {
                strikes = 0;
            }
        }

        void shutOutFrom(int strikesToShutOut) {
            if (strikes >= strikesToShutOut) {
                shutOut = true;
            }
        }

        int numberOf(int what) {
            switch (what) {
                case 0: return row;
                case 1: return lag;
                case 2: return offset;
                case 3: return weight;
                case 4: return shown;
                case 5: return strikes;
                case 6: return shutOut ? 1 : 0;
                case 7: return kept;
                case 8: return spikes;
                default: return mended;
            }
        }
    }

    /** The state: all that undo and the snapshots bring back. */
    private static final class Place {
        private final Thermometer[] thermometers = new Thermometer[MOST_THERMOMETERS];
        /** Stands in where there is no thermometer; nobody reads it. */
        private final Thermometer spare = new Thermometer();
        private final int[] periods = new int[ROWS];
        private final int[] timesRead = new int[ROWS];
        /** No part of the state: it is filled anew each time. */
        private final Ascending sorted = new Ascending();
        private int meanBefore = NONE;
        int size;
        int hour;
        int temperature = FIRST_TEMPERATURE;
        int readings;
        int spikes;
        int difference = 300;
        int strikesToShutOut = 2;

        Place() {
            for (int i = 0; i < thermometers.length; i++) {
                thermometers[i] = new Thermometer();
            }
            for (int row = 0; row < periods.length; row++) {
                periods[row] = 1;
            }
        }

        void copyFrom(Place other) {
            for (int i = 0; i < other.size; i++) {
                at(i).copyFrom(other.at(i));
            }
            copyInto(periods, other.periods);
            copyInto(timesRead, other.timesRead);
            meanBefore = other.meanBefore;
            size = other.size;
            hour = other.hour;
            temperature = other.temperature;
            readings = other.readings;
            spikes = other.spikes;
            difference = other.difference;
            strikesToShutOut = other.strikesToShutOut;
        }

        boolean has(int number) {
            return number >= 0 && number < size;
        }

        boolean hasRoom() {
            return size < MOST_THERMOMETERS;
        }

        boolean hasHoursLeft(int hours) {
            return hour <= LAST_HOUR - hours;
        }

        Thermometer at(int number) {
            if (number < 0 || number >= thermometers.length) {
                return spare;
            }
            Thermometer found = thermometers[number];
            return found == null ? spare : found;
        }

        int add(int row, int lag, int offset, int weight) {
            int number = size;
            at(number).begin(row, lag, offset, weight, temperature);
            size++;
            return number;
        }

        void changePeriod(int row, int period) {
            if (row >= 0 && row < periods.length) {
                periods[row] = period;
            }
        }

        int periodOf(int row) {
            return entry(periods, row);
        }

        int timesReadOf(int row) {
            return entry(timesRead, row);
        }

        int hoursUntilRead(int row) {
            return periodOf(row) - remainder(hour, periodOf(row));
        }

        int countInRow(int row) {
            int number = 0;
            for (int i = 0; i < size; i++) {
                if (at(i).row == row) {
                    number++;
                }
            }
            return number;
        }

        void passHours(int hours, int change) {
            for (int i = 0; i < hours; i++) {
                int next = temperature + change;
                passHour(Math.max(-EXTREME_TEMPERATURE, Math.min(EXTREME_TEMPERATURE, next)));
            }
        }

        /** Returns how many readings there are in the hour. */
        int passHour(int newTemperature) {
            meanBefore = mean();
            hour++;
            temperature = newTemperature;
            for (int i = 0; i < size; i++) {
                at(i).follow(temperature);
            }
            int before = readings;
            readRows();
            if (readings > before) {
                lookForSpikes();
            }
            return readings - before;
        }

        private void readRows() {
            for (int row = 0; row < timesRead.length; row++) {
                if (isReadNow(row)) {
                    timesRead[row]++;
                }
            }
            for (int i = 0; i < size; i++) {
                if (isReadNow(at(i).row)) {
                    at(i).takeReading(hour);
                    readings++;
                }
            }
        }

        private boolean isReadNow(int row) {
            return remainder(hour, periodOf(row)) == 0;
        }

        /** Shuts out only when all are compared: who is shut out now is still asked in this hour. */
        private void lookForSpikes() {
            if (Integer.bitCount(maskOfAsked()) < 2) {
                return;
            }
            for (int i = 0; i < size; i++) {
                if (at(i).isAskedAndReadIn(hour)) {
                    compareWithOthers(i);
                }
            }
            for (int i = 0; i < size; i++) {
                if (at(i).isAskedAndReadIn(hour)) {
                    at(i).shutOutFrom(strikesToShutOut);
                }
            }
        }

        private void compareWithOthers(int number) {
            int spikesBefore = at(number).spikes;
            at(number).compareWith(middleWithout(number), difference);
            spikes += at(number).spikes - spikesBefore;
        }

        /** The middle of all that are asked but one; NONE without them. */
        int middleWithout(int leftOut) {
            sorted.clear();
            for (int i = 0; i < size; i++) {
                if (i != leftOut && at(i).isAsked()) {
                    sorted.insert(at(i).mended);
                }
            }
            return sorted.middle();
        }

        int maskOfAsked() {
            int mask = 0;
            for (int i = 0; i < size; i++) {
                if (at(i).isAsked()) {
                    mask |= 1 << i;
                }
            }
            return mask;
        }

        int maskOfShutOut() {
            int mask = 0;
            for (int i = 0; i < size; i++) {
                if (at(i).shutOut) {
                    mask |= 1 << i;
                }
            }
            return mask;
        }

        int mean() {
            int sum = 0;
            int weights = 0;
            for (int i = 0; i < size; i++) {
                if (at(i).isAsked()) {
                    sum += at(i).mended * at(i).weight;
                    weights += at(i).weight;
                }
            }
            return weights == 0 ? NONE : quotient(sum, weights);
        }

        int slope() {
            int mean = mean();
            return mean == NONE || meanBefore == NONE ? NONE : mean - meanBefore;
        }

        int atRank(int how, int rank) {
            for (int i = 0; i < size; i++) {
                if (at(i).hasMended() && countAheadOf(i, how) == rank) {
                    return i;
                }
            }
            return NONE;
        }

        private int countAheadOf(int number, int how) {
            int key = sortKey(number, how);
            int ahead = 0;
            for (int i = 0; i < size; i++) {
                int other = sortKey(i, how);
                if (at(i).hasMended() && (other < key || other == key && i < number)) {
                    ahead++;
                }
            }
            return ahead;
        }

        /** The lowest key comes first. */
        private int sortKey(int number, int how) {
            return how == BY_ERROR ? -at(number).error(temperature) : at(number).mended;
        }

        int countMended() {
            int number = 0;
            for (int i = 0; i < size; i++) {
                if (at(i).hasMended()) {
                    number++;
                }
            }
            return number;
        }

        int countMendedIn(int from, int to) {
            int number = 0;
            for (int i = 0; i < size; i++) {
                if (at(i).hasMended() && at(i).mended >= from && at(i).mended <= to) {
                    number++;
                }
            }
            return number;
        }

        int sumOfErrors() {
            int sum = 0;
            for (int i = 0; i < size; i++) {
                if (at(i).hasMended()) {
                    sum += at(i).error(temperature);
                }
            }
            return sum;
        }

        int greatestDistance() {
            int greatest = 0;
            for (int i = 0; i < size; i++) {
                greatest = Math.max(greatest, at(i).distance(temperature));
            }
            return greatest;
        }
    }

    /** Numbers in ascending order, as many as there can be thermometers. */
    private static final class Ascending {
        private final int[] numbers = new int[MOST_THERMOMETERS];
        private int size;

        void clear() {
            size = 0;
        }

        void insert(int number) {
            if (size >= numbers.length) {
                return;
            }
            int index = size;
            while (index > 0 && numbers[index - 1] > number) {
                numbers[index] = numbers[index - 1];
                index--;
            }
            numbers[index] = number;
            size++;
        }

        int middle() {
            int index = (size - 1) / 2;
            return size > 0 && index < numbers.length ? numbers[index] : NONE;
        }
    }

    /** The saved states, a ring in which the newest one takes the place of the oldest. */
    private static final class History {
        private final Place[] states = new Place[MOST_SAVED];
        private final Place spare = new Place();
        private int next;
        int size;

        History() {
            for (int i = 0; i < states.length; i++) {
                states[i] = new Place();
            }
        }

        void save(Place place) {
            stateAt(next).copyFrom(place);
            next = (next + 1) % MOST_SAVED;
            size = Math.min(size + 1, MOST_SAVED);
        }

        void restoreLatest(Place place) {
            next = (next + MOST_SAVED - 1) % MOST_SAVED;
            place.copyFrom(stateAt(next));
            size--;
        }

        private Place stateAt(int index) {
            if (index < 0 || index >= states.length) {
                return spare;
            }
            Place found = states[index];
            return found == null ? spare : found;
        }
    }

    /** A snapshot slot. */
    private static final class Snapshot {
        final Place place = new Place();
        boolean taken;

        void take(Place source) {
            place.copyFrom(source);
            taken = true;
        }
    }

    /** The buffer, and a reader that goes through its orders. */
    private static final class OrderText {
        static final int ADDS_THERMOMETER = 0;
        static final int PASSES_HOUR = 1;
        static final int CHANGES_PERIOD = 2;
        static final int CALIBRATES = 3;

        private final char[] characters = new char[MOST_CHARACTERS];
        private int position;
        /** The digit that was taken last. */
        private int digit;
        int length;

        /** The order that was read last: what it does, and what its numbers are. */
        int kind;
        int row;
        /** The lag, the degrees, the period or the thermometer. */
        int number;
        int weight;

        boolean isFull() {
            return length >= characters.length;
        }

        void addCharacter(char character) {
            if (length >= 0 && length < characters.length) {
                characters[length] = character;
                length++;
            }
        }

        void goToStart() {
            position = 0;
        }

        boolean isComplete() {
            return readsAll();
        }

        int indexOfError() {
            readsAll();
            return position;
        }

        /** Reads orders as far as it goes; the position is then the index of the first error. */
        private boolean readsAll() {
            goToStart();
            for (int orders = 0; orders < MOST_CHARACTERS; orders++) {
                if (!readsOrder()) {
                    return false;
                }
                if (position == length) {
                    return true;
                }
                if (!takesSign(';')) {
                    return false;
                }
            }
            return false;
        }

        /** For a complete text: reads one order and the ";" behind it; false if there are no more. */
        boolean readNextOrder() {
            boolean isRead = readsOrder();
            takesSign(';');
            return isRead;
        }

        private boolean readsOrder() {
            if (takesSign('t')) {
                kind = ADDS_THERMOMETER;
                return readsRow() && takesSign(',') && readsNumber('1', '9') && readsWeight();
            }
            if (takesSign('h')) {
                kind = PASSES_HOUR;
                return readsDegrees();
            }
            if (takesSign('p')) {
                kind = CHANGES_PERIOD;
                return readsRow() && takesSign('/') && readsNumber('1', '6');
            }
            kind = CALIBRATES;
            return takesSign('c') && readsNumber('0', '9');
        }

        private boolean readsRow() {
            boolean isTaken = takes('0', '3');
            row = digit;
            return isTaken;
        }

        private boolean readsNumber(char least, char most) {
            boolean isTaken = takes(least, most);
            number = digit;
            return isTaken;
        }

        private boolean readsWeight() {
            weight = 1;
            if (!takesSign('*')) {
                return true;
            }
            boolean isTaken = takes('1', '5');
            weight = digit;
            return isTaken;
        }

        private boolean readsDegrees() {
            int sign = takesSign('-') ? -1 : 1;
            if (!takes('0', '9')) {
                return false;
            }
            int degrees = digit;
            boolean mayGoOn = degrees >= 1 && degrees <= 5;
            if (mayGoOn && takes('0', degrees == 5 ? '0' : '9')) {
                degrees = degrees * 10 + digit;
            }
            number = sign * degrees;
            return true;
        }

        private boolean takesSign(char sign) {
            return takes(sign, sign);
        }

        /** Goes on by one character if it lies between two others; at the end of the text nothing does. */
        private boolean takes(char least, char most) {
            if (position < 0 || position >= length || position >= characters.length) {
                return false;
            }
            char character = characters[position];
            if (character < least || character > most) {
                return false;
            }
            digit = character - '0';
            position++;
            return true;
        }
    }
}
