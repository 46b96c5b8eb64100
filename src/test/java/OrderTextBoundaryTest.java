/** The boundary cases of the promises 9 to 12, and of the order text: append, clearBuffer, firstError, execute. */
public final class OrderTextBoundaryTest {
    private static final Sentences SENTENCES = new Sentences("OrderTextBoundaryTest");
    /** 20 orders of three characters with the ";" behind them: 59 characters that are complete. */
    private static final String TWENTY_ORDERS = "h1;h2;h3;h4;h5;h6;h7;h8;h9;h1;h2;h3;h4;h5;h6;h7;h8;h9;h0;h7";

    public static void main(String[] args) {
        append();
        clearBuffer();
        firstError();
        orders();
        thermometerOrders();
        hourOrders();
        periodAndCalibrateOrders();
        leadingZeros();
        execute();
        executeRefuses();
        executeStops();
        theBufferIsNoState();
        SENTENCES.finish();
    }

    /** The first error of this text is there; so it is when anything follows. */
    private static void error(String sentence, String text, int index) {
        SENTENCES.test(sentence + ": " + text, "write " + text, "firstError = " + index, "execute ! IllegalArgument");
        SENTENCES.test(sentence + ": " + text + ", and more", "write " + text + ";h5", "firstError = " + index, "execute ! IllegalArgument");
        SENTENCES.test(sentence + ": " + text + ", behind another order", "write c0;" + text, "firstError = " + (index + 3),
            "execute ! IllegalArgument");
    }

    /** This text has no error, but is not complete. */
    private static void unfinished(String sentence, String... texts) {
        for (String text : texts) {
            SENTENCES.test(sentence + ": " + text, "write " + text, "firstError = " + text.length(), "execute ! IllegalArgument",
                "clearBuffer = " + text.length());
        }
    }

    /** This one order is complete; what is asked then has these answers. */
    private static void order(String sentence, String text, String... due) {
        SENTENCES.test(sentence + ": " + text, "thermometer 3 9 0 1", "write " + text, "firstError = " + text.length(), "execute = 1",
            String.join("\n", due));
    }

    private static void append() {
        SENTENCES.test("code: 33 to 126: just inside", "append 33 = 1", "append 126 = 2", "count 11 = 2");
        SENTENCES.refuses("Throws IllegalArgumentException if code is out of range", "IllegalArgument",
            "append 32", "append 127", "append 0", "append -1", "append 65640", "append MIN", "append MAX");
        SENTENCES.test("The buffer is empty at first", "count 11 = 0", "clearBuffer = 0", "firstError = 0");
        SENTENCES.test("The buffer holds at most 60 characters: the 60th", "59 x append 33", "append 33 = 60", "count 11 = 60");
        SENTENCES.test("Throws IllegalStateException if the buffer holds 60 characters", "write " + TWENTY_ORDERS, "append 59 = 60",
            "append 104 ! IllegalState", "append 126 ! IllegalState");
        SENTENCES.test("Throws IllegalStateException if the buffer holds 60 characters, and not when it is cleared", "60 x append 104",
            "append 104 ! IllegalState", "clearBuffer = 60", "append 104 = 1");
        SENTENCES.test("The first that the throws clause lists: code out of range, and 60 characters", "60 x append 104",
            "append 32 ! IllegalArgument", "append 127 ! IllegalArgument");
    }

    private static void clearBuffer() {
        SENTENCES.test("Returns the length that it had: empty", "clearBuffer = 0", "count 10 = 0");
        SENTENCES.test("Returns the length that it had: one, then none", "append 104", "clearBuffer = 1", "count 11 = 0", "clearBuffer = 0");
        SENTENCES.test("Returns the length that it had: full", "60 x append 104", "clearBuffer = 60", "count 11 = 0", "firstError = 0");
        SENTENCES.test("Clears the buffer: nothing of it comes back", "write h7;h8", "clearBuffer", "write h9", "execute = 1", "count 2 = 900");
    }

    private static void firstError() {
        SENTENCES.test("The length of the buffer if there is no error: empty", "firstError = 0");
        SENTENCES.test("The length of the buffer if there is no error: full and complete", "write h50;" + TWENTY_ORDERS.substring(3),
            "count 11 = 60", "firstError = 60", "execute = 20");
        SENTENCES.test("The length of the buffer if there is no error: full and not complete", "write " + TWENTY_ORDERS + ";",
            "count 11 = 60", "firstError = 60", "execute ! IllegalArgument");
        SENTENCES.test("Returns its index: the last one of a full buffer", "write " + TWENTY_ORDERS + "1", "firstError = 59",
            "execute ! IllegalArgument");
        SENTENCES.test("Returns its index: the first of several", "write h7x;y", "firstError = 2");
        SENTENCES.test("The first error is told anew with each character", "append 104", "firstError = 1", "append 53", "firstError = 2",
            "append 49", "firstError = 2", "append 49", "firstError = 2", "clearBuffer", "append 49", "firstError = 0");
        SENTENCES.changeNothing("firstError changes nothing", "firstError");
        unfinished("The length of the buffer if there is no error (also if the text is not complete)",
            "t", "t0", "t3,", "t0,1*", "h", "h-", "p", "p0", "p3/", "c", "h5;", "h5;t", "h5;t0", "h5;p3/", "h5;c0;");
    }

    private static void orders() {
        unfinished("one or more orders with \";\" between them: none behind it", "c0;", "t0,1;", "h50;", "p0/6;", "h5;h5;");
        error("one or more orders with \";\" between them: none before it", ";", 0);
        error("one or more orders with \";\" between them: none between two", "h5;;", 3);
        SENTENCES.test("one or more orders: none", "execute ! IllegalArgument", "count 11 = 0");
        SENTENCES.test("one or more orders: one", "write h5", "execute = 1");
        SENTENCES.test("one or more orders: twenty of them", "write " + TWENTY_ORDERS, "execute = 20", "count 0 = 20", "count 2 = 700",
            "count 10 = 1");
        for (String text : new String[] {"x", "1", "-", ",", "*", "/", "T", "H", "s", "u", "g", "i", "o", "q", "b", "d", "!", "~"}) {
            error("An order is \"t\" or \"h\" or \"p\" or \"c\"", text, 0);
        }
        error("one or more orders with \";\" between them: another character", "h6:", 2);
        error("one or more orders with \";\" between them: another character", "c0,", 2);
        error("one or more orders with \";\" between them: no character", "c0h5", 2);
    }

    private static void thermometerOrders() {
        order("a row from 0 to 3", "t0,1", "ofThermometer 1 0 = 0");
        order("a row from 0 to 3", "t3,1", "ofThermometer 1 0 = 3");
        error("a row from 0 to 3", "t4", 1);
        error("a row from 0 to 3", "t-", 1);
        error("a row from 0 to 3", "t/", 1);
        order("a lag from 1 to 9", "t0,1", "ofThermometer 1 1 = 1");
        order("a lag from 1 to 9", "t0,9", "ofThermometer 1 1 = 9");
        error("a lag from 1 to 9", "t0,0", 3);
        error("a lag from 1 to 9", "t0,:", 3);
        error("a lag from 1 to 9", "t0,10", 4);
        error("a row, \",\", a lag", "t01", 2);
        error("a row, \",\", a lag", "t0/", 2);
        error("a row, \",\", a lag", "t0*", 2);
        order("perhaps \"*\" and a weight from 1 to 5", "t0,1*1", "ofThermometer 1 3 = 1");
        order("perhaps \"*\" and a weight from 1 to 5", "t0,1*5", "ofThermometer 1 3 = 5");
        error("a weight from 1 to 5", "t0,1*0", 5);
        error("a weight from 1 to 5", "t0,1*6", 5);
        error("a weight from 1 to 5", "t0,1*;", 5);
        error("a weight from 1 to 5", "t0,1*5*", 6);
        error("a weight from 1 to 5", "t0,1*12", 6);
        order("a weight, 1 if it is left out", "t2,7", "ofThermometer 1 3 = 1");
        SENTENCES.test("a weight, 1 if it is left out: also behind one that is not", "write t0,1*5;t0,1", "execute = 2", "ofThermometer 0 3 = 5",
            "ofThermometer 1 3 = 1");
        order("as thermometer() with the offset 0", "t2,7*3", "ofThermometer 1 2 = 0", "ofThermometer 1 4 = 1000");
    }

    private static void hourOrders() {
        order("degrees from 0 to 50", "h0", "count 2 = 0");
        order("degrees from 0 to 50", "h50", "count 2 = 5000");
        order("degrees from 0 to 50: the greatest of one digit, the least of two", "h9", "count 2 = 900");
        order("degrees from 0 to 50: the greatest of one digit, the least of two", "h10", "count 2 = 1000");
        order("degrees from 0 to 50", "h5", "count 2 = 500");
        order("degrees from 0 to 50", "h49", "count 2 = 4900");
        error("degrees from 0 to 50", "h51", 2);
        error("degrees from 0 to 50", "h59", 2);
        error("degrees from 0 to 50", "h60", 2);
        error("degrees from 0 to 50", "h90", 2);
        error("degrees from 0 to 50: a second digit", "h1/", 2);
        error("degrees from 0 to 50: a second digit", "h4:", 2);
        error("degrees from 0 to 50: a second digit", "h-4/", 3);
        error("degrees from 0 to 50: a second digit", "h-1:", 3);
        error("degrees from 0 to 50: a second digit", "h5/", 2);
        error("degrees from 0 to 50", "h100", 3);
        error("degrees from 0 to 50", "h500", 3);
        order("perhaps \"-\"", "h-50", "count 2 = -5000");
        order("perhaps \"-\"", "h-1", "count 2 = -100");
        order("perhaps \"-\"", "h-10", "count 2 = -1000");
        error("perhaps \"-\"", "h-51", 3);
        error("perhaps \"-\"", "h-60", 3);
        error("perhaps \"-\"", "h-500", 4);
        error("perhaps \"-\", once", "h--", 2);
        error("perhaps \"-\", before the degrees", "h5-", 2);
        error("\"-\", and no other", "h+", 1);
        error("h and degrees", "h;", 1);
        error("h and degrees", "h-;", 2);
        error("h and degrees", "h/", 1);
        error("h and degrees", "h:", 1);
        order("\"-0\" is allowed, and means 0", "h-0", "count 2 = 0");
        SENTENCES.test("as hour() with 100 times the degrees: its thermometers are read", "two", "write h20", "execute = 1", "count 0 = 1",
            "count 8 = 2", "ofThermometer 0 4 = 2000", "ofThermometer 1 4 = 1111");
    }

    private static void periodAndCalibrateOrders() {
        order("\"p\", a row from 0 to 3", "p0/2", "row 0 0 = 2");
        order("\"p\", a row from 0 to 3", "p3/2", "row 3 0 = 2");
        error("\"p\", a row from 0 to 3", "p4", 1);
        error("\"p\", a row from 0 to 3", "p-", 1);
        order("a period from 1 to 6", "p1/1", "row 1 0 = 1");
        order("a period from 1 to 6", "p1/6", "row 1 0 = 6");
        error("a period from 1 to 6", "p0/0", 3);
        error("a period from 1 to 6", "p0/7", 3);
        error("a period from 1 to 6", "p0/10", 4);
        error("a row, \"/\", a period", "p01", 2);
        error("a row, \"/\", a period", "p0,", 2);
        error("a row, \"/\", a period", "p0;", 2);
        order("\"c\" and a thermometer from 0 to 9", "c0", "ofThermometer 0 4 = 1000");
        SENTENCES.test("\"c\" and a thermometer from 0 to 9: the last of ten", "ten", "knock 9 5", "write c9", "execute = 1",
            "ofThermometer 9 4 = 1000", "count 10 = 6");
        error("\"c\" and a thermometer from 0 to 9", "c10", 2);
        error("\"c\" and a thermometer from 0 to 9", "c-", 1);
        error("\"c\" and a thermometer from 0 to 9", "c/", 1);
        error("\"c\" and a thermometer from 0 to 9", "c:", 1);
        error("\"c\" and a thermometer from 0 to 9", "c;", 1);
    }

    private static void leadingZeros() {
        error("Numbers have no leading zeros", "t00", 2);
        error("Numbers have no leading zeros", "t0,01", 3);
        error("Numbers have no leading zeros", "t0,1*01", 5);
        error("Numbers have no leading zeros", "h00", 2);
        error("Numbers have no leading zeros", "h05", 2);
        error("Numbers have no leading zeros", "h-00", 3);
        error("Numbers have no leading zeros", "h-05", 3);
        error("Numbers have no leading zeros", "p00", 2);
        error("Numbers have no leading zeros", "p0/01", 3);
        error("Numbers have no leading zeros", "c00", 2);
    }

    private static void execute() {
        SENTENCES.test("Returns how many orders are executed; clears the buffer", "write t0,9;h9;p0/2;c0", "execute = 4", "count 11 = 0",
            "firstError = 0", "execute ! IllegalArgument");
        SENTENCES.test("Executes the orders, one after the other", "write t0,1;h20;p0/3;h30;p0/1;h40;c0;h50", "execute = 8",
            "ofThermometer 0 7 = 1", "row 0 3 = 3", "count 8 = 3");
        SENTENCES.test("Undoable, as one call", "write h1;h2;h3", "execute = 3", "count 10 = 1", "undo = 0", "count 0 = 0", "count 2 = 1000",
            "count 11 = 0");
        SENTENCES.test("Undoable, as one call: the oldest of six saved states is dropped", "6 x hour 5", "write h1;h2", "execute = 2",
            "count 10 = 6", "5 x undo", "count 0 = 2", "undo = 0", "count 0 = 1");
    }

    private static void executeRefuses() {
        SENTENCES.test("Throws IllegalArgumentException if the buffer is not a complete order text: empty", "execute ! IllegalArgument",
            "hour 1000", "execute ! IllegalArgument", "count 10 = 1");
        SENTENCES.test("Throws IllegalArgumentException if the buffer is not a complete order text: an error behind orders", "write h5;c0;h7;x",
            "execute ! IllegalArgument", "count 0 = 0", "count 11 = 10", "count 10 = 0");
        SENTENCES.test("Throws IllegalArgumentException if the buffer is not a complete order text: it stays, and can be completed",
            "write h5;h", "execute ! IllegalArgument", "append 54 = 5", "execute = 2", "count 2 = 600");
        SENTENCES.test("Throws IllegalArgumentException if the buffer is not a complete order text: with an order that would throw, too",
            "write c9;h", "execute ! IllegalArgument", "count 11 = 4", "count 10 = 0");
    }

    private static void executeStops() {
        SENTENCES.test("Up to the first one whose method would throw: the first one of all", "write c0;h5", "execute = 0", "count 0 = 0",
            "count 11 = 0", "count 10 = 1");
        SENTENCES.test("Up to the first one whose method would throw: the last one of all", "write h5;h6;c0", "execute = 2", "count 0 = 2");
        SENTENCES.test("Up to the first one whose method would throw: those behind it are not executed", "thermometer 0 1 0 1",
            "write h5;c1;p0/2;t0,1", "execute = 1", "row 0 0 = 1", "count 1 = 1", "count 2 = 500");
        SENTENCES.test("Up to the first one whose method would throw: the last thermometer there is", "9 x thermometer 0 1 0 1",
            "write c8;c9;h5", "execute = 1", "count 0 = 0", "write t0,1;c9;h5", "execute = 3");
        SENTENCES.test("Up to the first one whose method would throw: 10 thermometers", "8 x thermometer 0 1 0 1",
            "write t1,2;t2,3;t3,4;h5", "execute = 2", "count 1 = 10", "ofThermometer 9 0 = 2", "count 0 = 0", "count 10 = 6");
        SENTENCES.test("Up to the first one whose method would throw: the hour 9999", "416 x hours 24 0", "hours 14 0", "write h5;h6;p0/2",
            "execute = 1", "count 0 = 9999", "count 2 = 500", "row 0 0 = 1", "count 11 = 0");
        SENTENCES.test("Up to the first one whose method would throw: an order may come from the one before", "write t0,1;c0;c1", "execute = 2",
            "count 1 = 1");
        SENTENCES.test("Undoable, as one call, even if nothing changes", "write c0", "execute = 0", "count 10 = 1", "undo = 0",
            "undo ! IllegalState");
    }

    private static void theBufferIsNoState() {
        SENTENCES.test("The state is everything except the buffer: undo", "hour 5", "write h7", "undo = 0", "count 11 = 2", "execute = 1",
            "count 2 = 700");
        SENTENCES.test("The state is everything except the buffer: undo of execute", "write h7", "execute = 1", "write p0", "undo = 0",
            "count 11 = 2", "firstError = 2");
        SENTENCES.test("The state is everything except the buffer: goBack", "write h7", "keep 0", "clearBuffer = 2", "write c", "goBack 0",
            "count 11 = 1");
        SENTENCES.test("append, clearBuffer and firstError save no state", "write h7", "clearBuffer", "firstError", "count 10 = 0",
            "undo ! IllegalState");
    }
}
