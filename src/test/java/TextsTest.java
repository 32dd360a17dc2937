import java.util.NoSuchElementException;

/** Promises 26 to 29: the input, texts, error positions and refusals. */
public final class TextsTest {
    private static final Checks CHECKS = new Checks();
    private static final String ILLEGAL = "throws IllegalArgumentException";
    private static final String UNSUPPORTED = "throws UnsupportedOperationException";

    public static void main(String[] args) {
        append();
        readOrders();
        readNothingOfARefusedText();
        readFaultyOrders();
        readDecidesByTheFirst();
        readLongTexts();
        errorPositions();
        refusal();
        CHECKS.end();
    }

    /** Towers 0 and 1, tongs 0 with reach 10, a banquet in the hour 50 that wants 2 courses. */
    private static SugarTowers hotel() {
        SugarTowers hotel = new SugarTowers();
        hotel.tower();
        hotel.tower();
        hotel.tongs(10);
        hotel.banquet(50, 2, 9);
        return hotel;
    }

    private static void append() {
        SugarTowers hotel = new SugarTowers();
        for (int i = 1; i <= 60; i++) {
            int length = i;
            CHECKS.due("26: character " + i, length, () -> hotel.append((char) (length * 1000)));
        }
        CHECKS.dueThrow("26: character 61", IllegalStateException.class, () -> hotel.append('b'));
        CHECKS.due("26: characters", 60, () -> hotel.account(15));
        CHECKS.dueThrow("27: no order", IllegalArgumentException.class, hotel::read);
        CHECKS.due("26: empty after read", 1, () -> hotel.append('b'));
        CHECKS.due("26: no change", 0, () -> hotel.account(16));
    }

    private static void readOrders() {
        SugarTowers hotel = hotel();
        CHECKS.due("27: all kinds of orders", 6,
                () -> Checks.read(hotel, "b0+20;l0/0:0*05;h02;l0/0:0*3;s0@0;t0"));
        CHECKS.due("27: no error", -1, hotel::errorPosition);
        CHECKS.due("27: empty", 0, () -> hotel.account(15));
        CHECKS.due("27: bought", 20, () -> hotel.account(8));
        CHECKS.due("27: stock", 15, () -> hotel.stock(0));
        CHECKS.due("27: courses", 1, () -> hotel.towerOf(0, 0));
        CHECKS.due("27: hour", 2, () -> hotel.account(0));
        CHECKS.due("27: shown", 0, () -> hotel.banquetOf(0, 3));
        CHECKS.due("27: one change", 5, () -> hotel.account(16));
        CHECKS.due("27: undone at once", 4, hotel::undo);
        CHECKS.due("27: nothing was bought", 0, () -> hotel.account(8));
        CHECKS.due("27: the hour before", 0, () -> hotel.account(0));
        CHECKS.due("27: no tower is shown", -1, () -> hotel.banquetOf(0, 3));
        CHECKS.due("27: two digits", 1, () -> Checks.read(hotel, "s00@1"));
        CHECKS.due("27: shown by two digits", 1, () -> hotel.banquetOf(0, 3));
        CHECKS.due("27: 72 hours", 1, () -> Checks.read(hotel, "h72"));
    }

    private static void readNothingOfARefusedText() {
        SugarTowers hotel = hotel();
        CHECKS.due("27: refused", UNSUPPORTED, () -> Checks.read(hotel, "b0+20;h1;l0/0:0*5;l1/0:0*4"));
        CHECKS.due("27: no error if refused", -1, hotel::errorPosition);
        CHECKS.due("27: reason kept", 4, () -> hotel.refusal(false));
        CHECKS.due("27: detail kept", 2, () -> hotel.refusal(true));
        CHECKS.due("27: nothing bought", 0, () -> hotel.account(8));
        CHECKS.due("27: no hour", 0, () -> hotel.account(0));
        CHECKS.due("27: no change", 4, () -> hotel.account(16));
        CHECKS.due("27: empty", 0, () -> hotel.account(15));
        CHECKS.due("27: taking is refused", UNSUPPORTED, () -> Checks.read(hotel, "t1"));
        CHECKS.due("27: its reason", 9, () -> hotel.refusal(false));
        CHECKS.due("27: its tower", 1, () -> hotel.refusal(true));
        CHECKS.due("27: buying is refused", UNSUPPORTED, () -> Checks.read(hotel, "b1+20;b2+21"));
        CHECKS.due("27: its reason 2", 2, () -> hotel.refusal(false));
        CHECKS.due("27: with the coins by then", 3, () -> hotel.refusal(true));
    }

    private static void readFaultyOrders() {
        String[] faulty = {"b3+1", "b0+0", "b9+00", "l2/0:0*1", "l0/1:0*1", "l0/0:3*1", "l0/0:0*0", "l0/0:0*21",
            "t2", "s1@0", "s01@0", "s0@2", "h0", "h00", "h73", "b0+1;h99"};
        for (String text : faulty) {
            SugarTowers hotel = hotel();
            CHECKS.due("27: " + text, ILLEGAL, () -> Checks.read(hotel, text));
            CHECKS.due("27: no error in " + text, -1, hotel::errorPosition);
            CHECKS.due("27: nothing by " + text, 0, () -> hotel.account(8));
            CHECKS.dueThrow("29: no reason by " + text, NoSuchElementException.class, () -> hotel.refusal(false));
        }
    }

    private static void readDecidesByTheFirst() {
        SugarTowers hotel = hotel();
        CHECKS.due("27: fault first", ILLEGAL, () -> Checks.read(hotel, "t9;t0"));
        CHECKS.due("27: refusal first", UNSUPPORTED, () -> Checks.read(hotel, "t0;t9"));
        CHECKS.due("27: an error before all", ILLEGAL, () -> Checks.read(hotel, "t1;t9;t"));
        CHECKS.due("27: its position", 7, hotel::errorPosition);
        CHECKS.due("29: the text with an error kept no reason", 0, () -> hotel.refusal(true));
        CHECKS.due("27: a banquet that was held in the text", ILLEGAL, () -> Checks.read(hotel, "h50;s0@0"));
    }

    private static void readLongTexts() {
        SugarTowers hotel = hotel();
        CHECKS.due("27: twenty orders", 20, () -> Checks.read(hotel, "h1;".repeat(19) + "h01"));
        CHECKS.due("27: twenty hours", 20, () -> hotel.account(0));
        CHECKS.due("27: a semicolon too many", ILLEGAL, () -> Checks.read(hotel, "h1;".repeat(20)));
        CHECKS.due("28: too early at 60", 60, hotel::errorPosition);
        CHECKS.due("27: fifteen days", 15, () -> Checks.read(hotel, "h24;".repeat(14) + "h24"));
        CHECKS.due("27: their hours", 380, () -> hotel.account(0));
    }

    private static void errorPositions() {
        CHECKS.due("28: read was not called", -1, () -> new SugarTowers().errorPosition());
        String[] texts = {"", "x", "b", "bb", "b0", "b0-", "b0+", "b0+a", "b0+100", "b0+1;", "b0+1;;", "b0+1,", "l",
            "l00", "l0/", "l0//", "l0/0", "l0/00", "l0/0:", "l0/0:00", "l0/0:0*", "l0/0:0*100", "t", "t00", "tx",
            "s", "s@", "s123", "s1", "s12", "s1@", "s1@12", "h", "h;", "h123", "h1;x", "h1;b0+1;t0x", "B0+1", ";",
            " b0+1", "b0+1 ", "h1;h1;l0/0:0*1*"};
        int[] positions = {0, 0, 1, 1, 2, 2, 3, 3, 5, 5, 5, 4, 1,
            2, 3, 3, 4, 4, 5, 6, 7, 9, 1, 2, 1,
            1, 1, 3, 2, 3, 3, 4, 1, 1, 3, 3, 10, 0, 0,
            0, 4, 14};
        for (int i = 0; i < texts.length; i++) {
            SugarTowers hotel = hotel();
            String text = texts[i];
            CHECKS.due("27: error in " + text, ILLEGAL, () -> Checks.read(hotel, text));
            CHECKS.due("28: position in " + text, positions[i], hotel::errorPosition);
            CHECKS.due("27: empty after " + text, 0, () -> hotel.account(15));
        }
        SugarTowers hotel = hotel();
        Checks.read(hotel, "b0?");
        CHECKS.due("28: stays", 2, hotel::errorPosition);
        hotel.undo();
        CHECKS.due("28: not undone", 2, hotel::errorPosition);
        Checks.read(hotel, "h1");
        CHECKS.due("28: of the latest text", -1, hotel::errorPosition);
    }

    private static void refusal() {
        SugarTowers hotel = hotel();
        CHECKS.dueThrow("29: nothing", NoSuchElementException.class, () -> hotel.refusal(true));
        CHECKS.dueThrow("29: nothing, too", NoSuchElementException.class, () -> hotel.refusal(false));
        CHECKS.dueThrow("29: coins", UnsupportedOperationException.class, () -> hotel.buy(2, 34));
        CHECKS.due("29: reason", 2, () -> hotel.refusal(false));
        CHECKS.due("29: detail", 2, () -> hotel.refusal(true));
        hotel.save();
        CHECKS.dueThrow("29: take", UnsupportedOperationException.class, () -> hotel.take(1));
        hotel.buy(0, 1);
        CHECKS.due("29: the latest", 9, () -> hotel.refusal(false));
        CHECKS.due("29: its detail", 1, () -> hotel.refusal(true));
        hotel.undo();
        CHECKS.due("29: not undone", 9, () -> hotel.refusal(false));
        hotel.restore();
        CHECKS.due("29: not restored", 1, () -> hotel.refusal(true));
    }
}
