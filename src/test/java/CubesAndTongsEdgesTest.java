import java.util.NoSuchElementException;

/** Promises 1 to 8, the boundary cases of each. */
public final class CubesAndTongsEdgesTest {
    private static final Checks CHECKS = new Checks();

    public static void main(String[] args) {
        nothingAtFirst();
        humidityBefore();
        humidityNow();
        humidityRoundTheDay();
        buyAll();
        buyRefused();
        stockOfEachGrade();
        tongsWithoutRoom();
        cubesThatTongsLaid();
        tongsOfLeastReach();
        lowestOfSeveral();
        notTheBusyOnes();
        noTongs();
        CHECKS.end();
    }

    /** 1: Without towers, tongs, cubes and banquets, in the hour 0, with 100 coins. */
    private static void nothingAtFirst() {
        SugarTowers hotel = new SugarTowers();
        CHECKS.dueThrow("1: no tower", IndexOutOfBoundsException.class, () -> hotel.towerOf(0, 0));
        CHECKS.dueThrow("1: no tongs", IndexOutOfBoundsException.class, () -> hotel.tongsOf(0, 0));
        CHECKS.due("1: no cubes", 0, () -> hotel.stock(0) + hotel.stock(1) + hotel.stock(2));
        CHECKS.dueThrow("1: no banquet", NoSuchElementException.class, hotel::next);
        CHECKS.due("1: the hour", 0, () -> hotel.account(0));
        CHECKS.due("1: coins", 100, () -> hotel.account(1));
        CHECKS.dueThrow("1: no refusal", NoSuchElementException.class, () -> hotel.refusal(false));
        CHECKS.dueThrow("1: no change", IllegalStateException.class, hotel::undo);
        CHECKS.dueThrow("1: no snapshot", IllegalStateException.class, hotel::restore);
        SugarTowers other = new SugarTowers();
        other.tower();
        CHECKS.due("1: each object has its own", 0, () -> hotel.account(2));
    }

    /** 2: Returns the humidity before, in the first and the last hour of the day. */
    private static void humidityBefore() {
        SugarTowers hotel = new SugarTowers();
        for (int i : new int[] {0, 23}) {
            int hourOfDay = i;
            CHECKS.due("2: at first, hour " + i, 45, () -> hotel.humidity(hourOfDay, 99));
            CHECKS.due("2: then, hour " + i, 99, () -> hotel.humidity(hourOfDay, 0));
            CHECKS.due("2: and then, hour " + i, 0, () -> hotel.humidity(hourOfDay, 0));
        }
        CHECKS.dueThrow("2: not set by an exception", IllegalArgumentException.class, () -> hotel.humidity(0, 100));
        CHECKS.due("2: it is as before", 0, () -> hotel.humidityIn(0));
    }

    /** 3: 0 for the hour that is now. */
    private static void humidityNow() {
        SugarTowers hotel = new SugarTowers();
        for (int hourOfDay = 0; hourOfDay < 24; hourOfDay++) {
            hotel.humidity(hourOfDay, hourOfDay);
        }
        for (int i = 0; i < 50; i++) {
            int due = i % 24;
            CHECKS.due("3: now, hour " + i, due, () -> hotel.humidityIn(0));
            hotel.pass(1);
        }
    }

    /** 3: In 0 to 99 hours, round the day. */
    private static void humidityRoundTheDay() {
        SugarTowers hotel = new SugarTowers();
        for (int hourOfDay = 0; hourOfDay < 24; hourOfDay++) {
            hotel.humidity(hourOfDay, hourOfDay);
        }
        hotel.pass(23);
        for (int i = 0; i <= 99; i++) {
            int hours = i;
            CHECKS.due("3: in hours: " + i, (23 + hours) % 24, () -> hotel.humidityIn(hours));
        }
    }

    /** 4: 1 to 99, for as many coins as there are. */
    private static void buyAll() {
        SugarTowers hotel = new SugarTowers();
        CHECKS.due("4: 99", 99, () -> hotel.buy(0, 99));
        CHECKS.due("4: 1", 100, () -> hotel.buy(0, 1));
        CHECKS.due("4: no coin is left", 0, () -> hotel.account(1));
        CHECKS.due("4: bought", 100, () -> hotel.account(8));
        SugarTowers firm = new SugarTowers();
        CHECKS.due("4: 50 firm ones", 50, () -> firm.buy(1, 50));
        CHECKS.due("4: no coin is left by them", 0, () -> firm.account(1));
    }

    /** 4: Refused for reason 3 or 2; nothing is bought then. */
    private static void buyRefused() {
        SugarTowers hotel = new SugarTowers();
        CHECKS.dueThrow("4: a coin is missing", UnsupportedOperationException.class, () -> {
            hotel.buy(2, 33);
            return hotel.buy(1, 1);
        });
        CHECKS.due("4: reason 2", 2, () -> hotel.refusal(false));
        CHECKS.due("4: one coin", 1, () -> hotel.refusal(true));
        CHECKS.due("4: none bought", 0, () -> hotel.stock(1));
        CHECKS.due("4: the coin is there", 1, () -> hotel.account(1));
        SugarTowers full = Hotels.rich(2);
        Hotels.buy(full, 0, 250);
        CHECKS.dueThrow("4: 301", UnsupportedOperationException.class, () -> full.buy(0, 51));
        CHECKS.due("4: reason 3", 3, () -> full.refusal(false));
        CHECKS.due("4: has", 250, () -> full.refusal(true));
        CHECKS.due("4: 300", 300, () -> full.buy(0, 50));
    }

    /** 5: How many cubes of a grade the stock has, after each way to come and go. */
    private static void stockOfEachGrade() {
        SugarTowers hotel = Hotels.stocked(1);
        int[] due = {30, 20, 10};
        for (int i = 0; i < 3; i++) {
            int grade = i;
            int has = due[i];
            CHECKS.due("5: bought, grade " + i, has, () -> hotel.stock(grade));
            Hotels.lay(hotel, 0, grade, 4);
            CHECKS.due("5: laid, grade " + i, has - 4, () -> hotel.stock(grade));
            hotel.take(0);
            CHECKS.due("5: taken, grade " + i, has, () -> hotel.stock(grade));
        }
    }

    /** 6: Refused for reason 1, whatever the reach; an undone one makes room. */
    private static void tongsWithoutRoom() {
        SugarTowers hotel = new SugarTowers();
        for (int i = 0; i < 4; i++) {
            hotel.tongs(2);
        }
        CHECKS.dueThrow("6: reach 1", UnsupportedOperationException.class, () -> hotel.tongs(1));
        CHECKS.dueThrow("6: reach 10", UnsupportedOperationException.class, () -> hotel.tongs(10));
        CHECKS.due("6: four", 4, () -> hotel.refusal(true));
        hotel.undo();
        CHECKS.due("6: room again", 3, () -> hotel.tongs(10));
        CHECKS.due("6: the new reach", 10, () -> hotel.tongsOf(3, 0));
    }

    /** 7: The cubes that they laid so far, also those that were taken off, broken or eaten. */
    private static void cubesThatTongsLaid() {
        SugarTowers hotel = Hotels.stocked(2);
        hotel.tongs(4);
        CHECKS.due("7: none", 0, () -> hotel.tongsOf(0, 2));
        Hotels.lay(hotel, 0, 0, 9);
        hotel.take(0);
        CHECKS.due("7: taken off", 9, () -> hotel.tongsOf(0, 2));
        Hotels.layOnes(hotel, 0, 0, 0);
        Hotels.dampen(hotel, 40);
        CHECKS.due("7: broken", 11, () -> hotel.tongsOf(0, 2));
        Hotels.layOnes(hotel, 1, 0);
        int hour = hotel.account(0);
        hotel.banquet(hour + 1, 1, 1);
        hotel.show(0, 1);
        hotel.pass(1);
        CHECKS.due("7: eaten", 12, () -> hotel.tongsOf(0, 2));
        CHECKS.due("7: refused", 6, () -> hotel.why(0, 0, 2, 20));
        CHECKS.due("7: as before", 12, () -> hotel.tongsOf(0, 2));
        CHECKS.due("7: by a text", 1, () -> Checks.read(hotel, "l0/0:0*20"));
        CHECKS.due("7: 20 more", 32, () -> hotel.tongsOf(0, 2));
        CHECKS.due("7: busy for 5 hours", 5, () -> hotel.tongsOf(0, 1));
        CHECKS.due("7: the others laid none", 0, () -> hotel.tongsOf(1, 2));
        hotel.undo();
        CHECKS.due("7: undone", 12, () -> hotel.tongsOf(0, 2));
        CHECKS.due("7: not busy", 0, () -> hotel.tongsOf(0, 1));
    }

    /** 8: The tongs with the least reach of those that reach a course. */
    private static void tongsOfLeastReach() {
        SugarTowers hotel = new SugarTowers();
        int[] reaches = {10, 1, 7, 4};
        for (int reach : reaches) {
            hotel.tongs(reach);
        }
        int[] due = {1, 3, 3, 3, 2, 2, 2, 0, 0, 0};
        for (int i = 0; i < due.length; i++) {
            int course = i;
            CHECKS.due("8: course " + i, due[i], () -> hotel.tongsFor(course));
        }
    }

    /** 8: Of several the lowest ones. */
    private static void lowestOfSeveral() {
        SugarTowers hotel = new SugarTowers();
        hotel.tongs(10);
        hotel.tongs(10);
        CHECKS.due("8: both reach 10", 0, () -> hotel.tongsFor(9));
        hotel.tongs(5);
        hotel.tongs(5);
        CHECKS.due("8: both reach 5", 2, () -> hotel.tongsFor(4));
        CHECKS.due("8: higher than 5", 0, () -> hotel.tongsFor(5));
    }

    /** 8: Of those that are not busy. */
    private static void notTheBusyOnes() {
        SugarTowers hotel = Hotels.stocked(4);
        hotel.tongs(2);
        hotel.tongs(2);
        CHECKS.due("8: the lower one", 1, () -> hotel.tongsFor(0));
        hotel.lay(0, 1, 0, 1);
        CHECKS.due("8: the other one", 2, () -> hotel.tongsFor(0));
        hotel.lay(1, 2, 0, 5);
        CHECKS.due("8: one of a higher reach", 0, () -> hotel.tongsFor(0));
        hotel.lay(2, 0, 0, 5);
        CHECKS.dueThrow("8: all are busy", NoSuchElementException.class, () -> hotel.tongsFor(0));
        hotel.pass(1);
        CHECKS.due("8: one is not", 1, () -> hotel.tongsFor(0));
        CHECKS.dueThrow("8: it does not reach so high", NoSuchElementException.class, () -> hotel.tongsFor(2));
    }

    /** 8: Throws if there are none. */
    private static void noTongs() {
        SugarTowers hotel = new SugarTowers();
        CHECKS.dueThrow("8: no tongs", NoSuchElementException.class, () -> hotel.tongsFor(0));
        CHECKS.dueThrow("8: out of range, first", IllegalArgumentException.class, () -> hotel.tongsFor(10));
        hotel.tongs(1);
        CHECKS.due("8: reach 1, course 0", 0, () -> hotel.tongsFor(0));
        CHECKS.dueThrow("8: reach 1, course 1", NoSuchElementException.class, () -> hotel.tongsFor(1));
    }
}
