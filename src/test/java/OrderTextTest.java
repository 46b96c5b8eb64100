/** Promises 9 to 12: append, clearBuffer, firstError, execute. */
public final class OrderTextTest {
    private static final Checks CHECKS = new Checks();

    public static void main(String[] args) {
        appendAdds();
        clearBufferClears();
        firstErrorIsFound();
        eachCharacterThatMayFollow();
        executeCarriesOut();
        executeStopsAtTheFirstThatWouldThrow();
        executeRefuses();
        executeIsUndoneAsOne();
        ordersAreAsTheirMethods();
        CHECKS.finish("OrderTextTest");
    }

    private static LateThermometers with(LateThermometers x, String text) {
        for (char character : text.toCharArray()) {
            x.append(character);
        }
        return x;
    }

    private static void appendAdds() {
        LateThermometers empty = new LateThermometers();
        CHECKS.refusesArgument("append(32)", empty, y -> y.append(32));
        CHECKS.refusesArgument("append(127)", empty, y -> y.append(127));
        CHECKS.refusesArgument("append(-1)", empty, y -> y.append(-1));
        CHECKS.refusesArgument("append(65536 + 'h')", empty, y -> y.append(65536 + 'h'));
        LateThermometers x = new LateThermometers();
        CHECKS.same("append(33)", x.append(33), 1);
        CHECKS.same("append(126)", x.append(126), 2);
        for (int length = 3; length <= 60; length++) {
            CHECKS.same("append('h')", x.append('h'), length);
        }
        CHECKS.refusesState("append to 60", x, y -> y.append('h'));
        CHECKS.refusesArgument("append(127) to 60", x, y -> y.append(127));
        CHECKS.same("the buffer is not undone", x.count(10), 0);
    }

    private static void clearBufferClears() {
        LateThermometers x = new LateThermometers();
        CHECKS.same("clearBuffer() of none", x.clearBuffer(), 0);
        with(x, "h5;h");
        CHECKS.same("clearBuffer()", x.clearBuffer(), 4);
        CHECKS.same("then", x.count(11), 0);
        CHECKS.same("it is not saved", x.count(10), 0);
        with(x, "h7");
        CHECKS.same("execute() of the new text", x.execute(), 1);
        CHECKS.same("the temperature", x.count(2), 700);
    }

    private static void firstErrorIsFound() {
        String[] fine = {"", "t", "t0", "t3,", "t0,1", "t0,9*", "t0,9*5", "t2,5*1;", "h", "h-", "h-0", "h0", "h50", "h-50", "h49",
            "h5", "h9;h", "p", "p0", "p3/", "p3/6", "c", "c0", "c9", "c9;t0,1;p1/2;h-10;c"};
        for (String text : fine) {
            CHECKS.same("firstError of " + text, with(new LateThermometers(), text).firstError(), text.length());
        }
        // "@" stands before the wrong character
        String[] wrong = {"@x", "@;", "@T", "@1", "@-", "t@4", "t@-", "t@t", "t0@1", "t0@;", "t0@/", "t0,@0", "t0,@-", "t0,1@1", "t0,1@,",
            "t0,1*@0", "t0,1*@6", "t0,1*@;", "t0,1*1@1", "t0,1*1@*", "t0,1;@;", "h@;", "h@+", "h@h", "h-@-", "h-@;", "h0@0", "h-0@0", "h5@1",
            "h5@9", "h-5@1", "h6@0", "h9@9", "h50@0", "h49@9", "h1@-", "h12@3", "p@4", "p@/", "p0@,", "p0@;", "p0/@0", "p0/@7", "p0/6@1",
            "c@-", "c@;", "c@c", "c1@0", "c0@c", "c0;@x", "h1;h2;h3;h@;h4", "t0,1*5;p3/@9;x"};
        for (String marked : wrong) {
            int due = marked.indexOf('@');
            String text = marked.replace("@", "");
            CHECKS.same("firstError of " + text, with(new LateThermometers(), text).firstError(), due);
            CHECKS.same("firstError of " + text + "h", with(new LateThermometers(), text + "h").firstError(), due);
        }
        LateThermometers full = with(new LateThermometers(), "h5;h5;h5;h5;h5;h5;h5;h5;h5;h5;h5;h5;h5;h5;h5;h5;h5;h5;h5;h5;");
        CHECKS.same("firstError of 60 that could go on", full.firstError(), 60);
        CHECKS.changesNothing("firstError()", full, LateThermometers::firstError);
    }

    /** Each character from 33 to 126 behind each kind of beginning: only the ones that are named are right. */
    private static void eachCharacterThatMayFollow() {
        String digits = "0123456789";
        String[][] beginnings = {{"", "thpc"}, {"t", "0123"}, {"t0", ","}, {"t3,", "123456789"}, {"t0,1", "*;"}, {"t0,9*", "12345"},
            {"t0,1*5", ";"}, {"h", "-" + digits}, {"h-", digits}, {"h0", ";"}, {"h-0", ";"}, {"h1", digits + ";"}, {"h4", digits + ";"},
            {"h-4", digits + ";"}, {"h5", "0;"}, {"h-5", "0;"}, {"h6", ";"}, {"h9", ";"}, {"h10", ";"}, {"h49", ";"}, {"h-50", ";"},
            {"p", "0123"}, {"p3", "/"}, {"p0/", "123456"}, {"p0/6", ";"}, {"c", digits}, {"c9", ";"}, {"c0;", "thpc"}};
        for (String[] beginning : beginnings) {
            for (char character = 33; character <= 126; character++) {
                String text = "p1/2;" + beginning[0] + character;
                int due = beginning[1].indexOf(character) < 0 ? text.length() - 1 : text.length();
                CHECKS.same("firstError of " + text, with(new LateThermometers(), text).firstError(), due);
            }
        }
        for (int degrees = -60; degrees <= 60; degrees++) {
            LateThermometers x = with(new LateThermometers(), "h" + degrees);
            boolean fine = degrees >= -50 && degrees <= 50;
            CHECKS.isTrue("h" + degrees, x.firstError() == x.count(11) == fine);
            if (fine) {
                x.execute();
                CHECKS.same("h" + degrees + ": the temperature", x.count(2), 100 * degrees);
            }
        }
    }

    private static void executeCarriesOut() {
        LateThermometers x = with(new LateThermometers(), "t1,3*4;t2,9;h12;p1/2;h-5;h0;c0");
        CHECKS.same("execute()", x.execute(), 7);
        CHECKS.same("thermometers", x.count(1), 2);
        int[] first = {1, 3, 0, 4};
        int[] second = {2, 9, 0, 1};
        for (int what = 0; what < 4; what++) {
            CHECKS.same("the first: " + what, x.ofThermometer(0, what), first[what]);
            CHECKS.same("the second: " + what, x.ofThermometer(1, what), second[what]);
        }
        CHECKS.same("the hour", x.count(0), 3);
        CHECKS.same("the temperature", x.count(2), 0);
        CHECKS.same("the period", x.row(1, 0), 2);
        CHECKS.same("0 is calibrated", x.ofThermometer(0, 7), 0);
        CHECKS.same("0 shows", x.ofThermometer(0, 4), 0);
        CHECKS.same("1 is not", x.reading(1, 1, 1), 1022 + (-500 - 1022) / 9);
        CHECKS.same("the buffer", x.count(11), 0);
        CHECKS.same("saved", x.count(10), 1);
        with(x, "h-0");
        CHECKS.same("h-0", x.execute(), 1);
        CHECKS.same("h-0: the temperature", x.count(2), 0);
        with(x, "h-50").execute();
        CHECKS.same("h-50: the temperature", x.count(2), -5000);
        with(x, "h50").execute();
        CHECKS.same("h50: the temperature", x.count(2), 5000);
    }

    private static void executeStopsAtTheFirstThatWouldThrow() {
        LateThermometers x = with(new LateThermometers(), "h1;h2;c0;h3");
        CHECKS.same("no thermometer 0", x.execute(), 2);
        CHECKS.same("the hour", x.count(0), 2);
        CHECKS.same("the buffer is cleared", x.count(11), 0);
        CHECKS.same("saved", x.count(10), 1);
        with(x, "c9;h3");
        CHECKS.same("none is executed", x.execute(), 0);
        CHECKS.same("saved even so", x.count(10), 2);
        CHECKS.same("undo gives back the same", x.undo(), 1);
        CHECKS.same("the hour", x.count(0), 2);
        with(x, "t0,1;t0,1;t0,1;t0,1;t0,1;t0,1;t0,1;t0,1;t0,1;t0,1;t0,1;h9");
        CHECKS.same("the eleventh thermometer", x.execute(), 10);
        CHECKS.same("the hour stays", x.count(0), 2);
        LateThermometers late = new LateThermometers();
        for (int i = 0; i < 416; i++) {
            late.hours(24, 0);
        }
        late.hours(13, 0);
        CHECKS.same("the end comes", with(late, "h1;h2;h3;t0,1").execute(), 2);
        CHECKS.same("the last hour", late.count(0), 9999);
        CHECKS.same("its temperature", late.count(2), 200);
        CHECKS.same("no thermometer", late.count(1), 0);
    }

    private static void executeRefuses() {
        String[] incomplete = {"", "t", "t0", "t0,", "t0,1*", "h", "h-", "p0", "p0/", "c", "h5;", ";", "h5;;h5", "h51", "x", "h5;x", "c10", "t0,1*6"};
        for (String text : incomplete) {
            LateThermometers x = with(new LateThermometers(), text);
            CHECKS.refusesArgument("execute() of " + text, x, LateThermometers::execute);
            CHECKS.same("the buffer stays: " + text, x.clearBuffer(), text.length());
        }
        LateThermometers x = with(new LateThermometers(), "h5;");
        CHECKS.refusesArgument("execute() of h5;", x, LateThermometers::execute);
        with(x, "h6");
        CHECKS.same("the text stayed", x.execute(), 2);
    }

    private static void executeIsUndoneAsOne() {
        LateThermometers x = new LateThermometers();
        x.hour(1500);
        x.keep(1);
        String before = Views.stateOf(x);
        with(x, "t0,5;h20;h30;c0;p0/3;h-7").execute();
        CHECKS.same("undo()", x.undo(), 1);
        CHECKS.sameText("the state", Views.stateOf(x), before);
        CHECKS.same("the buffer stays empty", x.count(11), 0);
        with(x, "h3");
        CHECKS.same("undo() leaves the buffer alone", x.undo(), 0);
        CHECKS.same("the buffer", x.count(11), 2);
        x.goBack(1);
        CHECKS.same("goBack leaves the buffer alone", x.execute(), 1);
    }

    private static void ordersAreAsTheirMethods() {
        LateThermometers texts = new LateThermometers();
        LateThermometers calls = new LateThermometers();
        with(texts, "t0,4*3;t3,9;p3/2;h14;h-3;c0;h8;h7;t1,1;h0").execute();
        calls.thermometer(0, 4, 0, 3);
        calls.thermometer(3, 9, 0, 1);
        calls.period(3, 2);
        calls.hour(1400);
        calls.hour(-300);
        calls.calibrate(0);
        calls.hour(800);
        calls.hour(700);
        calls.thermometer(1, 1, 0, 1);
        calls.hour(0);
        CHECKS.sameText("the state", Views.stateOf(texts), Views.stateOf(calls));
    }
}
