import java.util.NoSuchElementException;

/** Promises 2 to 30: each number that is given, just in range, just out of it, and far out of it. */
public final class OutOfRangeTest {
    private static final Checks CHECKS = new Checks();
    private static final String INDEX = name(IndexOutOfBoundsException.class);
    private static final String ARGUMENT = name(IllegalArgumentException.class);
    private static final String NO_ELEMENT = name(NoSuchElementException.class);

    /** A call with one number that varies. */
    private interface Act {
        Object on(SugarTowers hotel, int number);
    }

    public static void main(String[] args) {
        humidityAndCubes();
        tongs();
        laying();
        towers();
        banquets();
        hoursAndAccounts();
        nothingThereYet();
        CHECKS.end();
    }

    private static String name(Class<? extends RuntimeException> kind) {
        return "throws " + kind.getSimpleName();
    }

    /** Towers 0 to 2, of which 1 has two courses; tongs 0 and 1, not busy; banquets 1 and 2 that wait; the hour 4. */
    private static SugarTowers hotel() {
        SugarTowers hotel = Hotels.rich(1);
        hotel.tower();
        hotel.tower();
        hotel.tongs(10);
        hotel.buy(0, 99);
        Hotels.lay(hotel, 1, 0, 3);
        Hotels.lay(hotel, 1, 0, 2);
        hotel.banquet(90, 1, 1);
        hotel.banquet(91, 1, 1);
        hotel.pass(1);
        return hotel;
    }

    /** Numbers from least to most are fine, all others throw what is due. */
    private static void range(String what, int least, int most, String due, Act act) {
        int[] wrong = {least - 1, most + 1, Integer.MIN_VALUE, Integer.MAX_VALUE, most + 256, most + 65536, -most - 7,
            Integer.MIN_VALUE + most, Integer.MAX_VALUE - 24};
        for (int number : wrong) {
            SugarTowers hotel = hotel();
            CHECKS.due(what + " " + number, due, () -> act.on(hotel, number));
        }
        for (int number : new int[] {least, most}) {
            SugarTowers hotel = hotel();
            Object answer = Checks.answerOf(() -> act.on(hotel, number));
            CHECKS.due(what + " " + number + " is fine: " + answer, false,
                    () -> answer instanceof String && ((String) answer).startsWith("throws"));
        }
    }

    private static void humidityAndCubes() {
        range("2: hour", 0, 23, INDEX, (h, n) -> h.humidity(n, 50));
        range("2: percent", 0, 99, ARGUMENT, (h, n) -> h.humidity(0, n));
        range("3: hours", 0, 99, ARGUMENT, (h, n) -> h.humidityIn(n));
        range("4: grade", 0, 2, ARGUMENT, (h, n) -> h.buy(n, 1));
        range("4: many", 1, 99, ARGUMENT, (h, n) -> h.buy(0, n));
        range("5: grade", 0, 2, ARGUMENT, (h, n) -> h.stock(n));
    }

    private static void tongs() {
        range("6: reach", 1, 10, ARGUMENT, (h, n) -> h.tongs(n));
        range("7: tongs", 0, 1, INDEX, (h, n) -> h.tongsOf(n, 0));
        range("7: what", 0, 2, ARGUMENT, (h, n) -> h.tongsOf(0, n));
        range("8: course", 0, 9, ARGUMENT, (h, n) -> h.tongsFor(n));
    }

    private static void laying() {
        range("10: tower", 0, 2, INDEX, (h, n) -> h.lay(n, 0, 0, 1));
        range("10: tongs", 0, 1, INDEX, (h, n) -> h.lay(0, n, 0, 1));
        range("10: grade", 0, 2, ARGUMENT, (h, n) -> {
            h.buy(1, 1);
            h.buy(2, 1);
            return h.lay(0, 0, n, 1);
        });
        range("10: cubes", 1, 20, ARGUMENT, (h, n) -> h.lay(0, 0, 0, n));
        range("11: tower", 0, 2, INDEX, (h, n) -> h.why(n, 0, 0, 1));
        range("11: tongs", 0, 1, INDEX, (h, n) -> h.why(0, n, 0, 1));
        range("11: grade", 0, 2, ARGUMENT, (h, n) -> h.why(0, 0, n, 1));
        range("11: cubes", 1, 20, ARGUMENT, (h, n) -> h.why(0, 0, 0, n));
    }

    private static void towers() {
        range("12: tower", 0, 2, INDEX, (h, n) -> withCourses(h).take(n));
        range("13: tower", 0, 2, INDEX, (h, n) -> withCourses(h).courseOf(n, 1, 0));
        range("13: course", 0, 1, INDEX, (h, n) -> h.courseOf(1, n, 0));
        range("13: what", 0, 3, ARGUMENT, (h, n) -> h.courseOf(1, 0, n));
        range("14: tower", 0, 2, INDEX, (h, n) -> withCourses(h).bearsAgain(n, 1));
        range("14: course", 0, 1, INDEX, (h, n) -> h.bearsAgain(1, n));
        range("15: tower", 0, 2, INDEX, (h, n) -> h.towerOf(n, 0));
        range("15: what", 0, 4, ARGUMENT, (h, n) -> h.towerOf(0, n));
        range("16: tower", 0, 2, INDEX, (h, n) -> h.spare(n));
        range("17: tower", 0, 2, INDEX, (h, n) -> h.sign(n));
        range("18: tower", 0, 2, INDEX, (h, n) -> h.stands(n, 0));
        range("18: dampness", 0, 99, ARGUMENT, (h, n) -> h.stands(1, n));
        range("19: tower", 0, 2, INDEX, (h, n) -> {
            Hotels.humidityOfAllHours(h, 99);
            return withCourses(h).breaksIn(n);
        });
    }

    /** The same hotel, with two courses on each tower. */
    private static SugarTowers withCourses(SugarTowers hotel) {
        Hotels.layOnes(hotel, 0, 0, 0);
        Hotels.layOnes(hotel, 2, 0, 0);
        return hotel;
    }

    private static void banquets() {
        for (int hour : new int[] {-1, 10000, Integer.MIN_VALUE, Integer.MAX_VALUE}) {
            CHECKS.due("20: hour " + hour, ARGUMENT, () -> hotel().banquet(hour, 1, 1));
        }
        CHECKS.due("20: the next hour", 3, () -> hotel().banquet(6, 1, 1));
        CHECKS.due("20: the last hour", 3, () -> hotel().banquet(9999, 1, 1));
        range("20: courses", 1, 10, ARGUMENT, (h, n) -> h.banquet(90, n, 1));
        range("20: coins", 1, 200, ARGUMENT, (h, n) -> h.banquet(90, 1, n));
        range("21: banquet", 1, 2, NO_ELEMENT, (h, n) -> h.show(n, 0));
        range("21: tower", 0, 2, INDEX, (h, n) -> h.show(1, n));
        range("22: banquet", 1, 2, NO_ELEMENT, (h, n) -> h.cancel(n));
        range("23: banquet", 1, 2, NO_ELEMENT, (h, n) -> h.banquetOf(n, 0));
        range("23: what", 0, 4, ARGUMENT, (h, n) -> h.banquetOf(1, n));
    }

    private static void hoursAndAccounts() {
        range("25: hours", 1, 72, ARGUMENT, (h, n) -> h.pass(n));
        range("30: what", 0, 16, ARGUMENT, (h, n) -> h.account(n));
    }

    /** Nothing is there in a new object, whatever its rows have room for. */
    private static void nothingThereYet() {
        SugarTowers hotel = new SugarTowers();
        for (int i = -1; i < 12; i++) {
            int number = i;
            CHECKS.due("tongs " + i, INDEX, () -> hotel.tongsOf(number, 0));
            CHECKS.due("tower " + i, INDEX, () -> hotel.towerOf(number, 0));
            CHECKS.due("course " + i, INDEX, () -> hotel.courseOf(number, 0, 0));
            CHECKS.due("taken " + i, INDEX, () -> hotel.take(number));
            CHECKS.due("banquet " + i, NO_ELEMENT, () -> hotel.banquetOf(number, 0));
            CHECKS.due("dropped " + i, NO_ELEMENT, () -> hotel.cancel(number));
        }
        hotel.tower();
        for (int i = -1; i < 12; i++) {
            int number = i;
            CHECKS.due("no course " + i, INDEX, () -> hotel.courseOf(0, number, 0));
            CHECKS.due("no course that bears " + i, INDEX, () -> hotel.bearsAgain(0, number));
        }
    }
}
