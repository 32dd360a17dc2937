import java.util.NoSuchElementException;

/** Promises 20 to 25: banquets and hours. */
public final class BanquetsTest {
    private static final Checks CHECKS = new Checks();

    public static void main(String[] args) {
        banquet();
        show();
        cancel();
        banquetOf();
        next();
        passRange();
        passDampens();
        passDries();
        passBreaks();
        passHolds();
        passBreaksBeforeItHolds();
        CHECKS.end();
    }

    /** Towers 0 with two courses of 5 soft cubes and 1 without any, tongs 0, the hour 4, 80 coins. */
    private static SugarTowers hotel() {
        SugarTowers hotel = new SugarTowers();
        hotel.buy(0, 20);
        hotel.tower();
        hotel.tower();
        hotel.tongs(10);
        hotel.lay(0, 0, 0, 5);
        hotel.pass(2);
        hotel.lay(0, 0, 0, 5);
        hotel.pass(2);
        return hotel;
    }

    private static void banquet() {
        SugarTowers hotel = hotel();
        CHECKS.dueThrow("20: hour 10000", IllegalArgumentException.class, () -> hotel.banquet(10000, 1, 1));
        CHECKS.dueThrow("20: hour -1", IllegalArgumentException.class, () -> hotel.banquet(-1, 1, 1));
        CHECKS.dueThrow("20: no courses", IllegalArgumentException.class, () -> hotel.banquet(9, 0, 1));
        CHECKS.dueThrow("20: 11 courses", IllegalArgumentException.class, () -> hotel.banquet(9, 11, 1));
        CHECKS.dueThrow("20: no coins", IllegalArgumentException.class, () -> hotel.banquet(9, 1, 0));
        CHECKS.dueThrow("20: 201 coins", IllegalArgumentException.class, () -> hotel.banquet(9, 1, 201));
        CHECKS.dueThrow("20: range before time", IllegalArgumentException.class, () -> hotel.banquet(4, 1, 201));
        CHECKS.dueThrow("20: hour now", UnsupportedOperationException.class, () -> hotel.banquet(4, 1, 1));
        CHECKS.due("20: reason", 10, () -> hotel.refusal(false));
        CHECKS.due("20: now", 4, () -> hotel.refusal(true));
        CHECKS.dueThrow("20: hour before", UnsupportedOperationException.class, () -> hotel.banquet(0, 1, 1));
        CHECKS.due("20: next hour", 0, () -> hotel.banquet(5, 1, 1));
        CHECKS.due("20: hour 9999", 1, () -> hotel.banquet(9999, 10, 200));
        for (int i = 2; i < 6; i++) {
            CHECKS.due("20: more", i, () -> hotel.banquet(9, 1, 1));
        }
        CHECKS.dueThrow("20: seventh, first", UnsupportedOperationException.class, () -> hotel.banquet(4, 1, 1));
        CHECKS.due("20: reason 1", 1, () -> hotel.refusal(false));
        CHECKS.due("20: 6", 6, () -> hotel.refusal(true));
        hotel.pass(1);
        CHECKS.due("20: numbers go on", 6, () -> hotel.banquet(9, 1, 1));
    }

    private static void show() {
        SugarTowers hotel = hotel();
        hotel.banquet(9, 3, 1);
        hotel.banquet(10, 1, 1);
        CHECKS.due("21: one is missing", 1, () -> hotel.show(0, 0));
        CHECKS.due("21: none is missing where there are more", 0, () -> hotel.show(1, 0));
        CHECKS.due("21: in place of another one", 3, () -> hotel.show(0, 1));
        CHECKS.due("21: its tower", 1, () -> hotel.banquetOf(0, 3));
        CHECKS.dueThrow("21: no banquet, first", NoSuchElementException.class, () -> hotel.show(2, 9));
        CHECKS.dueThrow("21: banquet -1", NoSuchElementException.class, () -> hotel.show(-1, 0));
        CHECKS.dueThrow("21: no tower", IndexOutOfBoundsException.class, () -> hotel.show(0, 2));
        CHECKS.dueThrow("21: tower -1", IndexOutOfBoundsException.class, () -> hotel.show(0, -1));
        CHECKS.due("21: tower stays", 1, () -> hotel.banquetOf(0, 3));
        hotel.pass(5);
        CHECKS.dueThrow("21: it waits no more", NoSuchElementException.class, () -> hotel.show(0, 0));
    }

    private static void cancel() {
        SugarTowers hotel = hotel();
        hotel.banquet(9, 3, 11);
        hotel.banquet(10, 2, 22);
        hotel.banquet(11, 1, 33);
        hotel.show(1, 0);
        CHECKS.due("22: two wait", 2, () -> hotel.cancel(1));
        CHECKS.dueThrow("22: not again", NoSuchElementException.class, () -> hotel.cancel(1));
        CHECKS.due("22: others stay", 11, () -> hotel.banquetOf(0, 2));
        CHECKS.due("22: others stay, too", 33, () -> hotel.banquetOf(2, 2));
        CHECKS.due("22: its tower is free", 0, () -> hotel.towerOf(0, 3));
        CHECKS.due("22: one waits", 1, () -> hotel.cancel(2));
        CHECKS.due("22: none waits", 0, () -> hotel.cancel(0));
        CHECKS.due("22: numbers go on", 3, () -> hotel.banquet(9, 1, 1));
        hotel.pass(20);
        CHECKS.due("22: those dropped are not held", 0, () -> hotel.account(6));
        CHECKS.due("22: and not spoilt", 1, () -> hotel.account(7));
        CHECKS.dueThrow("22: banquet -1", NoSuchElementException.class, () -> hotel.cancel(-1));
        CHECKS.dueThrow("22: banquet 4", NoSuchElementException.class, () -> hotel.cancel(4));
    }

    private static void banquetOf() {
        SugarTowers hotel = hotel();
        hotel.banquet(9, 3, 50);
        CHECKS.due("23: hour", 9, () -> hotel.banquetOf(0, 0));
        CHECKS.due("23: courses", 3, () -> hotel.banquetOf(0, 1));
        CHECKS.due("23: coins", 50, () -> hotel.banquetOf(0, 2));
        CHECKS.due("23: no tower", -1, () -> hotel.banquetOf(0, 3));
        CHECKS.due("23: all are missing", 3, () -> hotel.banquetOf(0, 4));
        hotel.show(0, 0);
        CHECKS.due("23: tower", 0, () -> hotel.banquetOf(0, 3));
        CHECKS.due("23: missing", 1, () -> hotel.banquetOf(0, 4));
        CHECKS.dueThrow("23: no banquet, first", NoSuchElementException.class, () -> hotel.banquetOf(1, 9));
        CHECKS.dueThrow("23: what 5", IllegalArgumentException.class, () -> hotel.banquetOf(0, 5));
        CHECKS.dueThrow("23: what -1", IllegalArgumentException.class, () -> hotel.banquetOf(0, -1));
    }

    private static void next() {
        SugarTowers hotel = hotel();
        CHECKS.dueThrow("24: none", NoSuchElementException.class, hotel::next);
        hotel.banquet(9, 1, 1);
        CHECKS.due("24: the only one", 0, hotel::next);
        hotel.banquet(8, 1, 1);
        hotel.banquet(8, 1, 1);
        hotel.banquet(10, 1, 1);
        CHECKS.due("24: lowest of the next hour", 1, hotel::next);
        hotel.cancel(1);
        CHECKS.due("24: the other one", 2, hotel::next);
        hotel.pass(4);
        CHECKS.due("24: after it was held", 0, hotel::next);
    }

    private static void passRange() {
        SugarTowers hotel = new SugarTowers();
        CHECKS.dueThrow("25: 0", IllegalArgumentException.class, () -> hotel.pass(0));
        CHECKS.dueThrow("25: 73", IllegalArgumentException.class, () -> hotel.pass(73));
        CHECKS.dueThrow("25: -1", IllegalArgumentException.class, () -> hotel.pass(-1));
        CHECKS.due("25: 72", 0, () -> hotel.pass(72));
        CHECKS.due("25: 1", 0, () -> hotel.pass(1));
        CHECKS.due("25: hour", 73, () -> hotel.account(0));
    }

    private static int dampnessAfter(SugarTowers hotel, int percent) {
        hotel.humidity(hotel.account(0) % 24, percent);
        hotel.pass(1);
        return hotel.towerOf(0, 2);
    }

    private static void passDampens() {
        SugarTowers hotel = new SugarTowers();
        hotel.tower();
        CHECKS.due("25: 50", 0, () -> dampnessAfter(hotel, 50));
        CHECKS.due("25: 59", 0, () -> dampnessAfter(hotel, 59));
        CHECKS.due("25: 60", 1, () -> dampnessAfter(hotel, 60));
        CHECKS.due("25: 79", 3, () -> dampnessAfter(hotel, 79));
        CHECKS.due("25: 99", 7, () -> dampnessAfter(hotel, 99));
        for (int hour = 0; hour < 24; hour++) {
            hotel.humidity(hour, 99);
        }
        hotel.pass(23);
        CHECKS.due("25: just at most", 99, () -> hotel.towerOf(0, 2));
        hotel.pass(1);
        CHECKS.due("25: at most", 99, () -> hotel.towerOf(0, 2));
    }

    private static void passDries() {
        SugarTowers hotel = new SugarTowers();
        hotel.tower();
        CHECKS.due("25: 70", 2, () -> dampnessAfter(hotel, 70));
        CHECKS.due("25: 40", 2, () -> dampnessAfter(hotel, 40));
        CHECKS.due("25: 39", 1, () -> dampnessAfter(hotel, 39));
        CHECKS.due("25: 0", 0, () -> dampnessAfter(hotel, 0));
        CHECKS.due("25: at least", 0, () -> dampnessAfter(hotel, 0));
    }

    private static void passBreaks() {
        SugarTowers hotel = new SugarTowers();
        hotel.buy(0, 5);
        hotel.buy(2, 5);
        hotel.tower();
        hotel.tongs(10);
        int[] grades = {2, 0, 0, 0, 2};
        for (int grade : grades) {
            hotel.lay(0, 0, grade, 1);
            hotel.pass(1);
        }
        for (int hour = 5; hour < 10; hour++) {
            hotel.humidity(hour, 99);
        }
        CHECKS.due("25: the lowest weak one and all above", 4, () -> hotel.pass(24));
        CHECKS.due("25: one is left", 1, () -> hotel.towerOf(0, 0));
        CHECKS.due("25: the hard one", 2, () -> hotel.courseOf(0, 0, 0));
        CHECKS.due("25: broken courses", 4, () -> hotel.towerOf(0, 4));
        CHECKS.due("25: broken cubes", 4, () -> hotel.account(11));
        CHECKS.due("25: cubes are lost", 2 + 3, () -> hotel.account(9));
        CHECKS.due("25: dampness stays", 20, () -> hotel.towerOf(0, 2));
        CHECKS.due("25: well", true, hotel::isWell);
    }

    private static void passHolds() {
        SugarTowers hotel = hotel();
        hotel.banquet(6, 1, 40);
        hotel.banquet(6, 3, 30);
        hotel.banquet(5, 3, 30);
        hotel.banquet(5, 1, 20);
        hotel.banquet(6, 2, 7);
        hotel.show(1, 0);
        hotel.show(2, 0);
        hotel.show(4, 0);
        hotel.humidity(5, 99);
        hotel.pass(1);
        CHECKS.due("25: too few courses and no tower: spoilt", 2, () -> hotel.account(7));
        CHECKS.due("25: a spoilt one eats nothing", 2, () -> hotel.towerOf(0, 0));
        CHECKS.due("25: a spoilt one brings nothing", 80, () -> hotel.account(1));
        CHECKS.due("25: the hour is later than that", 3, () -> hotel.account(5));
        hotel.pass(1);
        CHECKS.due("25: held", 1, () -> hotel.account(6));
        CHECKS.due("25: spoilt", 4, () -> hotel.account(7));
        CHECKS.due("25: none waits", 0, () -> hotel.account(5));
        CHECKS.due("25: coins", 87, () -> hotel.account(1));
        CHECKS.due("25: coins of banquets", 7, () -> hotel.account(14));
        CHECKS.due("25: eaten", 10, () -> hotel.account(12));
        CHECKS.due("25: no courses", 0, () -> hotel.towerOf(0, 0));
        CHECKS.due("25: dampness of the eaten one", 0, () -> hotel.towerOf(0, 2));
        CHECKS.due("25: dampness of the other one", 4, () -> hotel.towerOf(1, 2));
        CHECKS.due("25: eaten is not broken", 0, () -> hotel.towerOf(0, 4) + hotel.account(11));
        CHECKS.due("25: well", true, hotel::isWell);
        byNumbers();
    }

    private static void byNumbers() {
        SugarTowers hotel = hotel();
        hotel.banquet(6, 2, 40);
        hotel.banquet(6, 1, 90);
        hotel.show(1, 0);
        hotel.show(0, 0);
        hotel.pass(2);
        CHECKS.due("25: the lower one gets it", 40, () -> hotel.account(14));
        CHECKS.due("25: the higher one is spoilt", 1, () -> hotel.account(7));
    }

    private static void passBreaksBeforeItHolds() {
        SugarTowers hotel = new SugarTowers();
        hotel.buy(0, 3);
        hotel.tower();
        hotel.tongs(10);
        for (int i = 0; i < 3; i++) {
            hotel.lay(0, 0, 0, 1);
            hotel.pass(1);
        }
        for (int hour = 3; hour < 11; hour++) {
            hotel.humidity(hour, 90);
        }
        hotel.banquet(11, 3, 9);
        hotel.show(0, 0);
        CHECKS.due("25: it breaks in the hour before", 3, () -> hotel.pass(8));
        CHECKS.due("25: and is spoilt", 1, () -> hotel.account(7));
    }
}
