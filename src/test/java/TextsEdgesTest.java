import java.util.NoSuchElementException;

/** Promises 26 to 29, the boundary cases of each. */
public final class TextsEdgesTest {
    private static final Checks CHECKS = new Checks();
    private static final String ILLEGAL = "throws IllegalArgumentException";
    private static final String UNSUPPORTED = "throws UnsupportedOperationException";

    public static void main(String[] args) {
        appendToSixty();
        appendAnyCharacter();
        readAnEmptyInput();
        readReturnsTheOrders();
        readEmptiesTheInput();
        readOrdersOutOfRange();
        readOrdersAtTheEdges();
        readRefusals();
        readUndone();
        readAfterSave();
        errorPositionOfTheLatest();
        refusalOfTheLatest();
        CHECKS.end();
    }

    /** 26: Returns the characters in the input then; throws if it contains 60. */
    private static void appendToSixty() {
        SugarTowers hotel = new SugarTowers();
        for (int i = 1; i <= 60; i++) {
            CHECKS.due("26: characters", i, () -> hotel.append('h'));
        }
        for (int i = 0; i < 3; i++) {
            CHECKS.dueThrow("26: no room", IllegalStateException.class, () -> hotel.append('h'));
        }
        CHECKS.due("30: characters", 60, () -> hotel.account(15));
        Checks.answerOf(hotel::read);
        for (int i = 1; i <= 60; i++) {
            CHECKS.due("26: characters after read", i, () -> hotel.append('h'));
        }
        CHECKS.dueThrow("26: no room again", IllegalStateException.class, () -> hotel.append('h'));
    }

    /** 26: Whatever the character. */
    private static void appendAnyCharacter() {
        SugarTowers hotel = new SugarTowers();
        char[] signs = {0, ' ', '\n', 127, 128, 255, 256, 0xD800, 0xDC00, 0xFFFF};
        for (int i = 0; i < signs.length; i++) {
            char sign = signs[i];
            CHECKS.due("26: character " + (int) sign, i + 1, () -> hotel.append(sign));
        }
        CHECKS.due("27: no text", ILLEGAL, () -> Checks.answerOf(hotel::read));
        CHECKS.due("28: from the first on", 0, hotel::errorPosition);
    }

    /** 27: An empty input has no order, so it ends too early. */
    private static void readAnEmptyInput() {
        SugarTowers hotel = Hotels.rich(0);
        CHECKS.due("27: empty", ILLEGAL, () -> Checks.answerOf(hotel::read));
        CHECKS.due("28: at its length", 0, hotel::errorPosition);
        Checks.read(hotel, "h1");
        CHECKS.due("27: empty after a text", ILLEGAL, () -> Checks.answerOf(hotel::read));
        CHECKS.due("28: at its length again", 0, hotel::errorPosition);
        CHECKS.due("27: the orders of before are not carried out again", 1, () -> hotel.account(0));
    }

    /** 27: Returns the number of orders, 1 to 20. */
    private static void readReturnsTheOrders() {
        for (int i = 1; i <= 20; i++) {
            int orders = i;
            SugarTowers hotel = new SugarTowers();
            CHECKS.due("27: orders", orders, () -> Checks.read(hotel, "h1;".repeat(orders - 1) + "h1"));
            CHECKS.due("27: hours", orders, () -> hotel.account(0));
            CHECKS.due("27: one change", 1, () -> hotel.account(16));
        }
    }

    /** 27: The input is empty afterwards, also if an exception is thrown. */
    private static void readEmptiesTheInput() {
        String[] texts = {"h1", "b0?", "b", "b3+1", "t1", "t0", ""};
        Object[] due = {1, ILLEGAL, ILLEGAL, ILLEGAL, ILLEGAL, UNSUPPORTED, ILLEGAL};
        for (int i = 0; i < texts.length; i++) {
            String text = texts[i];
            SugarTowers hotel = Hotels.rich(0);
            CHECKS.due("27: " + text, due[i], () -> Checks.read(hotel, text));
            CHECKS.due("27: empty after " + text, 0, () -> hotel.account(15));
            CHECKS.due("27: a text after " + text, 1, () -> Checks.read(hotel, "b0+1"));
        }
    }

    /** Towers 0 and 1, of which 0 has a course of 5; tongs 0; 20 soft cubes; banquets 0 and 1; the hour 2. */
    private static SugarTowers hotel() {
        SugarTowers hotel = Hotels.rich(0);
        hotel.tower();
        hotel.buy(0, 25);
        Hotels.lay(hotel, 0, 0, 5);
        hotel.banquet(90, 1, 1);
        hotel.banquet(90, 1, 1);
        return hotel;
    }

    /** 27: The method for an order would throw another exception than UnsupportedOperationException. */
    private static void readOrdersOutOfRange() {
        String[] texts = {"b3+1", "b9+1", "b0+0", "b0+00", "l2/0:0*1", "l9/0:0*1", "l0/1:0*1", "l0/9:0*1",
            "l0/0:3*1", "l0/0:9*1", "l0/0:0*0", "l0/0:0*00", "l0/0:0*21", "l0/0:0*99", "t2", "t9", "s2@0", "s02@0",
            "s99@0", "s0@2", "s0@9", "h0", "h00", "h73", "h99"};
        for (String text : texts) {
            SugarTowers hotel = hotel();
            String before = State.ofChanges(hotel);
            CHECKS.due("27: " + text, ILLEGAL, () -> Checks.read(hotel, text));
            CHECKS.due("28: no position of " + text, -1, hotel::errorPosition);
            CHECKS.due("27: nothing by " + text, before, () -> State.ofChanges(hotel));
            CHECKS.dueThrow("29: no reason by " + text, NoSuchElementException.class, () -> hotel.refusal(false));
            CHECKS.due("27: nothing by it behind another order", ILLEGAL, () -> Checks.read(hotel, "h1;" + text));
            CHECKS.due("27: nothing by both", before, () -> State.ofChanges(hotel));
        }
    }

    /** 27: Orders whose numbers are just in range are carried out. */
    private static void readOrdersAtTheEdges() {
        String[] texts = {"b0+1", "b2+01", "b0+75", "b2+25", "l1/0:0*1", "l1/0:0*20", "l0/0:0*5", "t0", "s0@0", "s1@1",
            "s01@1", "h1", "h72"};
        for (String text : texts) {
            SugarTowers hotel = hotel();
            CHECKS.due("27: " + text, 1, () -> Checks.read(hotel, text));
            CHECKS.due("28: no position of " + text, -1, hotel::errorPosition);
            CHECKS.due("27: a change by " + text, 8, () -> hotel.account(16));
        }
        SugarTowers wide = Hotels.stocked(6);
        for (int i = 0; i < 3; i++) {
            wide.tongs(10);
        }
        CHECKS.due("27: the last tower and tongs", 1, () -> Checks.read(wide, "l5/3:2*10"));
        CHECKS.due("27: laid", 10, () -> wide.courseOf(5, 0, 1));
    }

    /** 27: Refused for each reason of the method for an order. */
    private static void readRefusals() {
        String[] texts = {"b0+76", "b2+26", "l0/0:0*5;l1/0:0*1", "l0/0:1*1", "l0/0:0*6", "t1", "t0;t0"};
        int[] reasons = {2, 2, 4, 6, 7, 9, 9};
        int[] details = {1, 3, 2, 0, 5, 1, 0};
        for (int i = 0; i < texts.length; i++) {
            String text = texts[i];
            SugarTowers hotel = hotel();
            CHECKS.due("27: " + text, UNSUPPORTED, () -> Checks.read(hotel, text));
            CHECKS.due("29: reason of " + text, reasons[i], () -> hotel.refusal(false));
            CHECKS.due("29: detail of " + text, details[i], () -> hotel.refusal(true));
        }
        SugarTowers full = Hotels.rich(2);
        Hotels.buy(full, 0, 250);
        CHECKS.due("27: 301", UNSUPPORTED, () -> Checks.read(full, "b0+20;b0+31"));
        CHECKS.due("29: reason 3", 3, () -> full.refusal(false));
        CHECKS.due("29: has by then", 270, () -> full.refusal(true));
        CHECKS.due("27: 300", 2, () -> Checks.read(full, "b0+20;b0+30"));
    }

    /** 34: A text is undone at once. */
    private static void readUndone() {
        SugarTowers hotel = hotel();
        String before = State.ofChanges(hotel);
        CHECKS.due("27: five orders", 5, () -> Checks.read(hotel, "s0@0;b0+9;l0/0:0*5;h72;h72"));
        CHECKS.due("27: held by then", 1, () -> hotel.account(6));
        CHECKS.due("34: undone", 7, hotel::undo);
        CHECKS.due("34: all is as before", before, () -> State.ofChanges(hotel));
    }

    /** 27: Orders go on from what is now, whatever the snapshot and an earlier text that was refused are. */
    private static void readAfterSave() {
        SugarTowers hotel = Hotels.rich(0);
        hotel.buy(0, 5);
        hotel.save();
        hotel.buy(0, 10);
        hotel.pass(3);
        CHECKS.due("27: refused", UNSUPPORTED, () -> Checks.read(hotel, "b1+20;h9;t0"));
        CHECKS.due("27: two orders", 2, () -> Checks.read(hotel, "b0+1;h1"));
        CHECKS.due("5: cubes of all", 16, () -> hotel.stock(0));
        CHECKS.due("5: none of what was refused", 0, () -> hotel.stock(1));
        CHECKS.due("30: coins", 84, () -> hotel.account(1));
        CHECKS.due("30: hours", 4, () -> hotel.account(0));
        hotel.restore();
        CHECKS.due("36: cubes of the snapshot", 5, () -> hotel.stock(0));
    }

    /** 28: Of the text of the latest call of read, or -1 if read has not been called. */
    private static void errorPositionOfTheLatest() {
        SugarTowers hotel = new SugarTowers();
        CHECKS.due("28: not called", -1, hotel::errorPosition);
        Checks.type(hotel, "x");
        CHECKS.due("28: not called by append", -1, hotel::errorPosition);
        Checks.answerOf(hotel::read);
        CHECKS.due("28: an error", 0, hotel::errorPosition);
        Checks.type(hotel, "b0+1");
        CHECKS.due("28: still", 0, hotel::errorPosition);
        Checks.answerOf(hotel::read);
        CHECKS.due("28: none", -1, hotel::errorPosition);
        Checks.read(hotel, "h1;h1;h1;b0+1;b0+1;b0+1;b0+1;b0+1;b0+1;b0+1;b0+1;b0+1;b0x");
        CHECKS.due("28: far on", 56, hotel::errorPosition);
    }

    /** 29: The reason of the latest refusal, by a method or in a text. */
    private static void refusalOfTheLatest() {
        SugarTowers hotel = new SugarTowers();
        CHECKS.dueThrow("29: no reason", NoSuchElementException.class, () -> hotel.refusal(false));
        CHECKS.dueThrow("29: no detail", NoSuchElementException.class, () -> hotel.refusal(true));
        Checks.answerOf(() -> hotel.banquet(0, 1, 1));
        CHECKS.due("29: by a method", 10, () -> hotel.refusal(false));
        CHECKS.due("29: a detail of 0", 0, () -> hotel.refusal(true));
        Checks.read(hotel, "b2+34");
        CHECKS.due("29: in a text", 2, () -> hotel.refusal(false));
        CHECKS.due("29: two coins", 2, () -> hotel.refusal(true));
        Checks.answerOf(() -> hotel.take(0));
        Checks.read(hotel, "t0");
        CHECKS.due("29: another exception is no refusal", 2, () -> hotel.refusal(false));
        hotel.tower();
        Checks.answerOf(() -> hotel.take(0));
        CHECKS.due("29: the latest", 9, () -> hotel.refusal(false));
    }
}
