import java.util.NoSuchElementException;

/** Promises 20 to 25, the boundary cases of each. */
public final class BanquetsEdgesTest {
    private static final Checks CHECKS = new Checks();
    private static final int SOFT = 0;
    private static final int HARD = 2;

    public static void main(String[] args) {
        hoursOfABanquet();
        theLastHour();
        hoursBeyondTheLast();
        refusedWithoutRoom();
        showReturnsWhatIsMissing();
        showInPlaceOfAnotherOne();
        showThrows();
        cancelReturnsHowManyWait();
        cancelEachPlace();
        cancelThrows();
        missingAsCoursesComeAndGo();
        banquetThatWaitsNoMore();
        nextOfOneHour();
        nextOfNone();
        passOneTo72();
        passReturnsWhatBrokeInThem();
        passWithNothing();
        CHECKS.end();
    }

    /** 20: Its hour, 0 to 9999; 0 is never later than the one that is now. */
    private static void hoursOfABanquet() {
        SugarTowers hotel = new SugarTowers();
        CHECKS.dueThrow("20: -1", IllegalArgumentException.class, () -> hotel.banquet(-1, 1, 1));
        CHECKS.dueThrow("20: 10000", IllegalArgumentException.class, () -> hotel.banquet(10000, 1, 1));
        CHECKS.dueThrow("20: nothing is refused", NoSuchElementException.class, () -> hotel.refusal(false));
        CHECKS.dueThrow("20: 0", UnsupportedOperationException.class, () -> hotel.banquet(0, 1, 1));
        CHECKS.due("20: reason 10", 10, () -> hotel.refusal(false));
        CHECKS.due("20: 1", 0, () -> hotel.banquet(1, 1, 1));
        CHECKS.due("20: 9999", 1, () -> hotel.banquet(9999, 1, 1));
        CHECKS.due("20: its hour", 9999, () -> hotel.banquetOf(1, 0));
    }

    private static void passTo(SugarTowers hotel, int hour) {
        while (hotel.account(0) < hour) {
            hotel.pass(Math.min(72, hour - hotel.account(0)));
        }
    }

    /** 20 and 25: A banquet of the hour 9999 is held. */
    private static void theLastHour() {
        SugarTowers hotel = Hotels.rich(0);
        hotel.buy(SOFT, 1);
        hotel.lay(0, 0, SOFT, 1);
        hotel.banquet(9999, 1, 200);
        hotel.show(0, 0);
        passTo(hotel, 9998);
        CHECKS.due("20: one of the next hour", 1, () -> hotel.banquet(9999, 1, 1));
        CHECKS.due("25: they wait", 2, () -> hotel.account(5));
        hotel.pass(1);
        CHECKS.due("25: held", 200, () -> hotel.account(14));
        CHECKS.due("25: spoilt", 1, () -> hotel.account(7));
        CHECKS.dueThrow("20: none can come any more", UnsupportedOperationException.class,
                () -> hotel.banquet(9999, 1, 1));
        CHECKS.due("20: the hour that is now", 9999, () -> hotel.refusal(true));
    }

    /** 25: Hours go on beyond 9999; 20: banquets do not. */
    private static void hoursBeyondTheLast() {
        SugarTowers hotel = new SugarTowers();
        hotel.tower();
        passTo(hotel, 10008);
        CHECKS.due("25: the hour", 10008, () -> hotel.account(0));
        CHECKS.dueThrow("20: 10009", IllegalArgumentException.class, () -> hotel.banquet(10009, 1, 1));
        CHECKS.dueThrow("20: 9999", UnsupportedOperationException.class, () -> hotel.banquet(9999, 1, 1));
        CHECKS.due("20: the hour that is now", 10008, () -> hotel.refusal(true));
        hotel.humidity(0, 7);
        CHECKS.due("3: the hour of the day", 7, () -> hotel.humidityIn(0));
    }

    /** 20: Refused for reason 1, before 10, and nothing is added then. */
    private static void refusedWithoutRoom() {
        SugarTowers hotel = new SugarTowers();
        for (int i = 0; i < 6; i++) {
            hotel.banquet(9, 1, i + 1);
        }
        CHECKS.dueThrow("20: a later hour", UnsupportedOperationException.class, () -> hotel.banquet(10, 1, 1));
        CHECKS.due("20: reason 1", 1, () -> hotel.refusal(false));
        CHECKS.dueThrow("20: an hour that is over", UnsupportedOperationException.class,
                () -> hotel.banquet(0, 1, 1));
        CHECKS.due("20: reason 1 still", 1, () -> hotel.refusal(false));
        CHECKS.due("20: six", 6, () -> hotel.refusal(true));
        for (int i = 0; i < 6; i++) {
            int number = i;
            CHECKS.due("20: they are as they were", number + 1, () -> hotel.banquetOf(number, 2));
        }
        CHECKS.dueThrow("20: none was added", NoSuchElementException.class, () -> hotel.banquetOf(6, 0));
    }

    /** 21: Returns how many courses are missing: all of them, some, one, none. */
    private static void showReturnsWhatIsMissing() {
        SugarTowers hotel = Hotels.stocked(2);
        Hotels.layOnes(hotel, 1, HARD, HARD, HARD);
        int[] wanted = {10, 4, 3, 2, 1};
        int[] missing = {7, 1, 0, 0, 0};
        for (int i = 0; i < wanted.length; i++) {
            int number = hotel.banquet(90, wanted[i], 1);
            CHECKS.due("21: no courses, wants " + wanted[i], wanted[i], () -> hotel.show(number, 0));
            CHECKS.due("21: three, wants " + wanted[i], missing[i], () -> hotel.show(number, 1));
        }
    }

    /** 21: In place of another one, or of the same. */
    private static void showInPlaceOfAnotherOne() {
        SugarTowers hotel = Hotels.stocked(6);
        hotel.banquet(90, 2, 1);
        for (int i : new int[] {0, 5, 5, 3}) {
            int tower = i;
            CHECKS.due("21: two are missing", 2, () -> hotel.show(0, tower));
            CHECKS.due("21: its tower", tower, () -> hotel.banquetOf(0, 3));
            CHECKS.due("21: once", 1, () -> hotel.towerOf(tower, 3));
        }
        CHECKS.due("21: not that of before", 0, () -> hotel.towerOf(5, 3));
    }

    /** 21: Throws if no such banquet waits, before it throws if there is no such tower. */
    private static void showThrows() {
        SugarTowers hotel = Hotels.stocked(1);
        CHECKS.dueThrow("21: none waits", NoSuchElementException.class, () -> hotel.show(0, 0));
        hotel.banquet(1, 1, 1);
        CHECKS.dueThrow("21: not yet", NoSuchElementException.class, () -> hotel.show(1, 0));
        CHECKS.dueThrow("21: tower 1", IndexOutOfBoundsException.class, () -> hotel.show(0, 1));
        CHECKS.due("21: no tower by it", -1, () -> hotel.banquetOf(0, 3));
        hotel.pass(1);
        CHECKS.dueThrow("21: waits no more, and no tower", NoSuchElementException.class, () -> hotel.show(0, 1));
    }

    /** 22: Returns how many wait then. */
    private static void cancelReturnsHowManyWait() {
        SugarTowers hotel = new SugarTowers();
        for (int i = 0; i < 6; i++) {
            hotel.banquet(9, 1, 1);
        }
        for (int i = 5; i >= 0; i--) {
            int left = i;
            CHECKS.due("22: they wait", left, () -> hotel.cancel(left));
        }
        CHECKS.dueThrow("22: none waits", NoSuchElementException.class, () -> hotel.cancel(0));
        hotel.pass(9);
        CHECKS.due("22: none is held or spoilt", 0, () -> hotel.account(6) + hotel.account(7));
    }

    /** 22: The first, a middle or the last of six; the others stay as they are. */
    private static void cancelEachPlace() {
        for (int i = 0; i < 6; i++) {
            int dropped = i;
            SugarTowers hotel = Hotels.stocked(6);
            for (int j = 0; j < 6; j++) {
                hotel.banquet(20 - j, j + 1, 10 + j);
                hotel.show(j, 5 - j);
            }
            CHECKS.due("22: five wait", 5, () -> hotel.cancel(dropped));
            for (int j = 0; j < 6; j++) {
                int number = j;
                int[] due = {20 - j, j + 1, 10 + j, 5 - j, j + 1};
                for (int k = 0; k < 5; k++) {
                    int what = k;
                    Object wanted = number == dropped ? "throws NoSuchElementException" : (Object) due[k];
                    CHECKS.due("22: banquet " + j + " without " + i, wanted, () -> hotel.banquetOf(number, what));
                }
            }
            CHECKS.due("24: next without " + i, dropped == 5 ? 4 : 5, hotel::next);
            CHECKS.due("20: number after " + i, 6, () -> hotel.banquet(9, 1, 1));
        }
    }

    /** 22: Throws if no such banquet waits: dropped, held, spoilt, or not there yet. */
    private static void cancelThrows() {
        SugarTowers hotel = Hotels.stocked(1);
        Hotels.layOnes(hotel, 0, HARD);
        hotel.banquet(2, 1, 1);
        hotel.banquet(2, 1, 1);
        hotel.banquet(9, 1, 1);
        hotel.show(0, 0);
        hotel.pass(1);
        CHECKS.due("25: held and spoilt", 1, () -> hotel.account(6) * hotel.account(7));
        CHECKS.dueThrow("22: held", NoSuchElementException.class, () -> hotel.cancel(0));
        CHECKS.dueThrow("22: spoilt", NoSuchElementException.class, () -> hotel.cancel(1));
        CHECKS.due("22: waits", 0, () -> hotel.cancel(2));
        CHECKS.dueThrow("22: dropped", NoSuchElementException.class, () -> hotel.cancel(2));
        CHECKS.dueThrow("22: not there yet", NoSuchElementException.class, () -> hotel.cancel(3));
    }

    /** 23: How many courses are missing as courses are laid, taken off, broken and eaten. */
    private static void missingAsCoursesComeAndGo() {
        SugarTowers hotel = Hotels.stocked(1);
        hotel.banquet(90, 2, 1);
        CHECKS.due("23: all, without a tower", 2, () -> hotel.banquetOf(0, 4));
        hotel.show(0, 0);
        CHECKS.due("23: all, without courses", 2, () -> hotel.banquetOf(0, 4));
        int[] missing = {1, 0, 0};
        for (int i = 0; i < missing.length; i++) {
            Hotels.layOnes(hotel, 0, SOFT);
            CHECKS.due("23: laid " + (i + 1), missing[i], () -> hotel.banquetOf(0, 4));
        }
        hotel.take(0);
        CHECKS.due("23: two are left", 0, () -> hotel.banquetOf(0, 4));
        hotel.take(0);
        CHECKS.due("23: one is left", 1, () -> hotel.banquetOf(0, 4));
        Hotels.layOnes(hotel, 0, HARD);
        int hour = hotel.account(0);
        hotel.banquet(hour + 1, 1, 1);
        hotel.show(1, 0);
        hotel.pass(1);
        CHECKS.due("23: eaten at another one", 2, () -> hotel.banquetOf(0, 4));
        Hotels.layOnes(hotel, 0, SOFT, HARD);
        CHECKS.due("23: two again", 0, () -> hotel.banquetOf(0, 4));
        Hotels.dampen(hotel, 40);
        CHECKS.due("23: broken", 2, () -> hotel.banquetOf(0, 4));
    }

    /** 23: Of a banquet that waits, not of one that does no more. */
    private static void banquetThatWaitsNoMore() {
        SugarTowers hotel = new SugarTowers();
        CHECKS.dueThrow("23: none", NoSuchElementException.class, () -> hotel.banquetOf(0, 0));
        CHECKS.dueThrow("23: none, and what", NoSuchElementException.class, () -> hotel.banquetOf(0, 5));
        hotel.banquet(1, 1, 1);
        hotel.banquet(2, 1, 7);
        CHECKS.dueThrow("23: what", IllegalArgumentException.class, () -> hotel.banquetOf(0, 5));
        hotel.pass(1);
        CHECKS.dueThrow("23: it is over", NoSuchElementException.class, () -> hotel.banquetOf(0, 0));
        CHECKS.due("23: the other one waits", 7, () -> hotel.banquetOf(1, 2));
        hotel.undo();
        CHECKS.due("23: it waits again", 1, () -> hotel.banquetOf(0, 0));
    }

    /** 24: Of several of one hour the lowest one. */
    private static void nextOfOneHour() {
        SugarTowers hotel = new SugarTowers();
        int[] hours = {7, 5, 9, 5, 7, 5};
        for (int hour : hours) {
            hotel.banquet(hour, 1, 1);
        }
        for (int due : new int[] {1, 3, 5, 0, 4, 2}) {
            CHECKS.due("24: next", due, hotel::next);
            hotel.cancel(due);
        }
        SugarTowers far = new SugarTowers();
        far.banquet(9999, 1, 1);
        CHECKS.due("24: the last hour", 0, far::next);
        far.banquet(9998, 1, 1);
        CHECKS.due("24: an hour before", 1, far::next);
    }

    /** 24: Throws if none waits: at first, after the last was dropped or held. */
    private static void nextOfNone() {
        SugarTowers hotel = new SugarTowers();
        CHECKS.dueThrow("24: at first", NoSuchElementException.class, hotel::next);
        hotel.banquet(3, 1, 1);
        hotel.cancel(0);
        CHECKS.dueThrow("24: dropped", NoSuchElementException.class, hotel::next);
        hotel.banquet(1, 1, 1);
        CHECKS.due("24: one", 1, hotel::next);
        hotel.pass(1);
        CHECKS.dueThrow("24: held", NoSuchElementException.class, hotel::next);
    }

    /** 25: 1 to 72 hours. */
    private static void passOneTo72() {
        SugarTowers hotel = new SugarTowers();
        hotel.banquet(73, 1, 1);
        for (int i : new int[] {0, -1, 73}) {
            int hours = i;
            CHECKS.dueThrow("25: " + i, IllegalArgumentException.class, () -> hotel.pass(hours));
        }
        CHECKS.due("25: no hour went by", 0, () -> hotel.account(0));
        CHECKS.due("25: 72", 0, () -> hotel.pass(72));
        CHECKS.due("25: the hour 72", 72, () -> hotel.account(0));
        CHECKS.due("25: the banquet waits", 1, () -> hotel.account(5));
        CHECKS.due("25: 1", 0, () -> hotel.pass(1));
        CHECKS.due("25: the banquet is over", 0, () -> hotel.account(5));
    }

    /** 25: Returns how many courses broke in them, in the first as in the last hour, but not before or later. */
    private static void passReturnsWhatBrokeInThem() {
        SugarTowers hotel = Hotels.stocked(2);
        Hotels.layOnes(hotel, 0, SOFT, HARD, HARD, HARD, HARD);
        Hotels.layOnes(hotel, 1, SOFT, HARD, HARD, HARD);
        int hour = hotel.account(0);
        hotel.humidity(hour % 24, 99);
        hotel.humidity((hour + 1) % 24, 99);
        hotel.humidity((hour + 2) % 24, 99);
        hotel.humidity((hour + 12) % 24, 99);
        hotel.humidity((hour + 13) % 24, 99);
        CHECKS.due("25: at 8", 0, () -> hotel.pass(2));
        CHECKS.due("25: at 12, and at 20", 9, () -> hotel.pass(12));
        CHECKS.due("25: nothing is left", 0, () -> hotel.pass(72));
        hotel.undo();
        hotel.undo();
        CHECKS.due("25: at 12 alone", 5, () -> hotel.pass(1));
        CHECKS.due("25: not again", 0, () -> hotel.pass(10));
        CHECKS.due("25: at 20 alone", 4, () -> hotel.pass(1));
    }

    /** 25: Hours go by without towers, tongs and banquets, too. */
    private static void passWithNothing() {
        SugarTowers hotel = new SugarTowers();
        Hotels.humidityOfAllHours(hotel, 99);
        CHECKS.due("25: nothing breaks", 0, () -> hotel.pass(72));
        CHECKS.due("25: all is well", true, hotel::isWell);
        CHECKS.due("25: a later tower is dry", 0, () -> {
            hotel.tower();
            return hotel.towerOf(0, 2);
        });
    }
}
