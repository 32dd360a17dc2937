import java.util.NoSuchElementException;

/** Promises 1 to 8: a new object, humidity, cubes, tongs. */
public final class CubesAndTongsTest {
    private static final Checks CHECKS = new Checks();

    public static void main(String[] args) {
        newObject();
        humidity();
        humidityIn();
        buy();
        stock();
        tongs();
        tongsOf();
        tongsFor();
        CHECKS.end();
    }

    private static void newObject() {
        SugarTowers hotel = new SugarTowers();
        for (int what = 0; what <= 16; what++) {
            int account = what;
            CHECKS.due("1: account " + what, what == 1 ? 100 : 0, () -> hotel.account(account));
        }
        CHECKS.due("1: is well", true, hotel::isWell);
        CHECKS.due("1: no error position", -1, hotel::errorPosition);
    }

    private static void humidity() {
        SugarTowers hotel = new SugarTowers();
        CHECKS.due("2: before", 45, () -> hotel.humidity(0, 0));
        CHECKS.due("2: before again", 0, () -> hotel.humidity(0, 99));
        CHECKS.due("2: last hour", 45, () -> hotel.humidity(23, 7));
        CHECKS.due("2: same is a change, too", 7, () -> hotel.humidity(23, 7));
        CHECKS.due("2: changes", 4, () -> hotel.account(16));
        CHECKS.dueThrow("2: no hour 24, first", IndexOutOfBoundsException.class, () -> hotel.humidity(24, 100));
        CHECKS.dueThrow("2: no hour -1", IndexOutOfBoundsException.class, () -> hotel.humidity(-1, 5));
        CHECKS.dueThrow("2: 100 percent", IllegalArgumentException.class, () -> hotel.humidity(0, 100));
        CHECKS.dueThrow("2: -1 percent", IllegalArgumentException.class, () -> hotel.humidity(0, -1));
        CHECKS.due("2: no change by an exception", 4, () -> hotel.account(16));
    }

    private static void humidityIn() {
        SugarTowers hotel = new SugarTowers();
        hotel.humidity(0, 10);
        hotel.humidity(3, 13);
        CHECKS.due("3: now", 10, () -> hotel.humidityIn(0));
        CHECKS.due("3: in 3", 13, () -> hotel.humidityIn(3));
        CHECKS.due("3: a day on", 13, () -> hotel.humidityIn(27));
        CHECKS.due("3: in 99", 13, () -> hotel.humidityIn(99));
        hotel.pass(2);
        CHECKS.due("3: later", 13, () -> hotel.humidityIn(1));
        CHECKS.due("3: round the day", 10, () -> hotel.humidityIn(22));
        CHECKS.dueThrow("3: 100", IllegalArgumentException.class, () -> hotel.humidityIn(100));
        CHECKS.dueThrow("3: -1", IllegalArgumentException.class, () -> hotel.humidityIn(-1));
    }

    private static void buy() {
        SugarTowers hotel = new SugarTowers();
        CHECKS.due("4: soft", 10, () -> hotel.buy(0, 10));
        CHECKS.due("4: firm", 20, () -> hotel.buy(1, 20));
        CHECKS.due("4: hard", 15, () -> hotel.buy(2, 15));
        CHECKS.due("4: coins", 5, () -> hotel.account(1));
        CHECKS.dueThrow("4: too few coins", UnsupportedOperationException.class, () -> hotel.buy(2, 2));
        CHECKS.due("4: reason 2", 2, () -> hotel.refusal(false));
        CHECKS.due("4: missing", 1, () -> hotel.refusal(true));
        CHECKS.due("4: all coins", 15, () -> hotel.buy(0, 5));
        CHECKS.dueThrow("4: grade 3", IllegalArgumentException.class, () -> hotel.buy(3, 1));
        CHECKS.dueThrow("4: grade -1", IllegalArgumentException.class, () -> hotel.buy(-1, 1));
        CHECKS.dueThrow("4: none", IllegalArgumentException.class, () -> hotel.buy(0, 0));
        CHECKS.dueThrow("4: 100", IllegalArgumentException.class, () -> hotel.buy(0, 100));
        SugarTowers rich = richHotel();
        rich.buy(0, 99);
        rich.buy(0, 99);
        rich.buy(0, 99);
        CHECKS.due("4: 300 of a grade", 300, () -> rich.buy(0, 3));
        CHECKS.due("4: coins left", 0, () -> rich.account(1));
        CHECKS.dueThrow("4: 301 of a grade", UnsupportedOperationException.class, () -> rich.buy(0, 1));
        CHECKS.due("4: reason 3 before 2", 3, () -> rich.refusal(false));
        CHECKS.due("4: has", 300, () -> rich.refusal(true));
    }

    /** A hotel with 300 coins, an eaten soft cube, and the hour 4. */
    private static SugarTowers richHotel() {
        SugarTowers hotel = new SugarTowers();
        hotel.buy(0, 2);
        hotel.tower();
        hotel.tongs(10);
        hotel.lay(0, 0, 0, 1);
        hotel.banquet(1, 1, 2);
        hotel.show(0, 0);
        hotel.pass(1);
        hotel.lay(0, 0, 0, 1);
        hotel.banquet(2, 1, 200);
        hotel.show(1, 0);
        hotel.pass(3);
        return hotel;
    }

    private static void stock() {
        SugarTowers hotel = new SugarTowers();
        hotel.buy(1, 3);
        CHECKS.due("5: soft", 0, () -> hotel.stock(0));
        CHECKS.due("5: firm", 3, () -> hotel.stock(1));
        CHECKS.due("5: hard", 0, () -> hotel.stock(2));
        CHECKS.dueThrow("5: grade 3", IllegalArgumentException.class, () -> hotel.stock(3));
        CHECKS.dueThrow("5: grade -1", IllegalArgumentException.class, () -> hotel.stock(-1));
    }

    private static void tongs() {
        SugarTowers hotel = new SugarTowers();
        CHECKS.dueThrow("6: reach 0", IllegalArgumentException.class, () -> hotel.tongs(0));
        CHECKS.dueThrow("6: reach 11", IllegalArgumentException.class, () -> hotel.tongs(11));
        CHECKS.due("6: first", 0, () -> hotel.tongs(1));
        CHECKS.due("6: second", 1, () -> hotel.tongs(10));
        CHECKS.due("6: third", 2, () -> hotel.tongs(5));
        CHECKS.due("6: fourth", 3, () -> hotel.tongs(5));
        CHECKS.dueThrow("6: fifth", UnsupportedOperationException.class, () -> hotel.tongs(5));
        CHECKS.due("6: reason", 1, () -> hotel.refusal(false));
        CHECKS.due("6: detail", 4, () -> hotel.refusal(true));
        CHECKS.dueThrow("6: reach first", IllegalArgumentException.class, () -> hotel.tongs(11));
        CHECKS.due("6: account", 4, () -> hotel.account(3));
    }

    private static void tongsOf() {
        SugarTowers hotel = new SugarTowers();
        hotel.buy(0, 30);
        hotel.tower();
        hotel.tower();
        hotel.tongs(3);
        hotel.tongs(4);
        hotel.lay(0, 1, 0, 14);
        CHECKS.due("7: reach", 4, () -> hotel.tongsOf(1, 0));
        CHECKS.due("7: busy for a fifth and 1", 3, () -> hotel.tongsOf(1, 1));
        CHECKS.due("7: laid", 14, () -> hotel.tongsOf(1, 2));
        CHECKS.due("7: others are not busy", 0, () -> hotel.tongsOf(0, 1));
        hotel.pass(2);
        CHECKS.due("7: an hour left", 1, () -> hotel.tongsOf(1, 1));
        hotel.pass(2);
        CHECKS.due("7: no hour left", 0, () -> hotel.tongsOf(1, 1));
        hotel.lay(1, 1, 0, 4);
        CHECKS.due("7: few cubes, an hour", 1, () -> hotel.tongsOf(1, 1));
        CHECKS.due("7: laid so far", 18, () -> hotel.tongsOf(1, 2));
        hotel.take(1);
        CHECKS.due("7: laid stays", 18, () -> hotel.tongsOf(1, 2));
        CHECKS.dueThrow("7: no tongs 2, first", IndexOutOfBoundsException.class, () -> hotel.tongsOf(2, 9));
        CHECKS.dueThrow("7: no tongs -1", IndexOutOfBoundsException.class, () -> hotel.tongsOf(-1, 0));
        CHECKS.dueThrow("7: what 3", IllegalArgumentException.class, () -> hotel.tongsOf(0, 3));
        CHECKS.dueThrow("7: what -1", IllegalArgumentException.class, () -> hotel.tongsOf(0, -1));
    }

    private static void tongsFor() {
        SugarTowers hotel = new SugarTowers();
        hotel.tongs(9);
        hotel.tongs(3);
        hotel.tongs(3);
        CHECKS.due("8: least reach, lowest", 1, () -> hotel.tongsFor(0));
        CHECKS.due("8: just reached", 1, () -> hotel.tongsFor(2));
        CHECKS.due("8: just not reached", 0, () -> hotel.tongsFor(3));
        CHECKS.due("8: reach 9 reaches 8", 0, () -> hotel.tongsFor(8));
        CHECKS.dueThrow("8: reach 9 does not reach 9", NoSuchElementException.class, () -> hotel.tongsFor(9));
        hotel.buy(0, 1);
        hotel.tower();
        hotel.lay(0, 1, 0, 1);
        CHECKS.due("8: not the busy ones", 2, () -> hotel.tongsFor(2));
        CHECKS.dueThrow("8: course 10", IllegalArgumentException.class, () -> hotel.tongsFor(10));
        CHECKS.dueThrow("8: course -1", IllegalArgumentException.class, () -> hotel.tongsFor(-1));
        CHECKS.dueThrow("8: none", NoSuchElementException.class, () -> new SugarTowers().tongsFor(0));
    }
}
