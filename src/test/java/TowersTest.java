import java.util.NoSuchElementException;

/** Promises 9 to 19: towers. */
public final class TowersTest {
    private static final Checks CHECKS = new Checks();

    public static void main(String[] args) {
        tower();
        lay();
        layWeak();
        layTenCourses();
        why();
        take();
        takeOverflows();
        courseOf();
        bearsAgain();
        towerOf();
        spare();
        sign();
        stands();
        breaksIn();
        CHECKS.end();
    }

    /** Towers 0 and 1, tongs 0 with reach 10 and tongs 1 with reach 1, 40 soft, 20 firm and 5 hard cubes. */
    private static SugarTowers hotel() {
        SugarTowers hotel = new SugarTowers();
        hotel.buy(0, 40);
        hotel.buy(1, 20);
        hotel.buy(2, 5);
        hotel.tower();
        hotel.tower();
        hotel.tongs(10);
        hotel.tongs(1);
        return hotel;
    }

    private static void layAndRest(SugarTowers hotel, int tower, int grade, int cubes) {
        hotel.lay(tower, 0, grade, cubes);
        hotel.pass(cubes / 5 + 1);
    }

    private static void tower() {
        SugarTowers hotel = new SugarTowers();
        for (int i = 0; i < 6; i++) {
            CHECKS.due("9: tower", i, hotel::tower);
        }
        CHECKS.dueThrow("9: seventh", UnsupportedOperationException.class, hotel::tower);
        CHECKS.due("9: reason", 1, () -> hotel.refusal(false));
        CHECKS.due("9: detail", 6, () -> hotel.refusal(true));
        CHECKS.due("9: account", 6, () -> hotel.account(2));
    }

    private static void refused(String what, SugarTowers hotel, int[] lay, int reason, int detail) {
        CHECKS.due(what + " why", reason, () -> hotel.why(lay[0], lay[1], lay[2], lay[3]));
        CHECKS.dueThrow(what, UnsupportedOperationException.class,
                () -> hotel.lay(lay[0], lay[1], lay[2], lay[3]));
        CHECKS.due(what + " reason", reason, () -> hotel.refusal(false));
        CHECKS.due(what + " detail", detail, () -> hotel.refusal(true));
    }

    private static void lay() {
        SugarTowers hotel = hotel();
        CHECKS.dueThrow("10: no tower", IndexOutOfBoundsException.class, () -> hotel.lay(2, 0, 9, 9));
        CHECKS.dueThrow("10: tower -1", IndexOutOfBoundsException.class, () -> hotel.lay(-1, 0, 0, 1));
        CHECKS.dueThrow("10: no tongs", IndexOutOfBoundsException.class, () -> hotel.lay(0, 2, 0, 0));
        CHECKS.dueThrow("10: tongs -1", IndexOutOfBoundsException.class, () -> hotel.lay(0, -1, 0, 1));
        CHECKS.dueThrow("10: grade 3", IllegalArgumentException.class, () -> hotel.lay(0, 0, 3, 1));
        CHECKS.dueThrow("10: grade -1", IllegalArgumentException.class, () -> hotel.lay(0, 0, -1, 1));
        CHECKS.dueThrow("10: no cubes", IllegalArgumentException.class, () -> hotel.lay(0, 0, 0, 0));
        CHECKS.dueThrow("10: 21 cubes", IllegalArgumentException.class, () -> hotel.lay(0, 0, 0, 21));
        CHECKS.dueThrow("10: no refusal by those", NoSuchElementException.class, () -> hotel.refusal(false));
        CHECKS.due("10: course 0", 0, () -> hotel.lay(0, 0, 0, 20));
        CHECKS.due("10: stock", 20, () -> hotel.stock(0));
        refused("10: busy before all below", hotel, new int[] {0, 0, 2, 20}, 4, 5);
        refused("10: reach before stock", hotel, new int[] {0, 1, 2, 20}, 5, 1);
        hotel.pass(5);
        hotel.lay(1, 1, 0, 4);
        refused("10: busy for an hour", hotel, new int[] {1, 1, 0, 4}, 4, 1);
        hotel.take(1);
        refused("10: stock before width", hotel, new int[] {0, 0, 2, 6}, 6, 5);
        CHECKS.due("10: course 1", 1, () -> hotel.lay(0, 0, 2, 5));
        hotel.pass(5);
        refused("10: wider than below", hotel, new int[] {0, 0, 0, 6}, 7, 5);
        CHECKS.due("10: as wide as below", 2, () -> hotel.lay(0, 0, 0, 5));
    }

    private static void layWeak() {
        SugarTowers hotel = hotel();
        layAndRest(hotel, 0, 1, 2);
        layAndRest(hotel, 0, 0, 2);
        layAndRest(hotel, 0, 0, 2);
        layAndRest(hotel, 0, 0, 2);
        layAndRest(hotel, 0, 0, 2);
        layAndRest(hotel, 0, 0, 1);
        CHECKS.due("10: width before weakness", 7, () -> hotel.why(0, 0, 0, 2));
        CHECKS.due("10: two bear 8, 7 are above, one more is fine", 6, () -> hotel.lay(0, 0, 0, 1));
        hotel.pass(1);
        refused("10: too weak, the lowest", hotel, new int[] {0, 0, 0, 1}, 8, 1);
        CHECKS.due("10: nothing was laid", 7, () -> hotel.towerOf(0, 0));
        CHECKS.due("10: no weakness told elsewhere", 0, () -> hotel.why(1, 0, 0, 1));
    }

    private static void layTenCourses() {
        SugarTowers hotel = hotel();
        layAndRest(hotel, 0, 2, 2);
        for (int i = 1; i < 10; i++) {
            layAndRest(hotel, 0, 1, 2);
        }
        refused("10: ten courses, first", hotel, new int[] {0, 1, 2, 20}, 1, 10);
        CHECKS.due("16: ten courses spare as if there was room", 0, () -> hotel.spare(0));
        CHECKS.due("13: above the lowest", 18, () -> hotel.courseOf(0, 0, 2));
        CHECKS.due("13: uppermost", 0, () -> hotel.courseOf(0, 9, 2));
    }

    private static void why() {
        SugarTowers hotel = hotel();
        CHECKS.dueThrow("11: no tower", IndexOutOfBoundsException.class, () -> hotel.why(2, 0, 9, 9));
        CHECKS.dueThrow("11: no tongs", IndexOutOfBoundsException.class, () -> hotel.why(0, 2, 9, 9));
        CHECKS.dueThrow("11: grade", IllegalArgumentException.class, () -> hotel.why(0, 0, 3, 1));
        CHECKS.dueThrow("11: cubes", IllegalArgumentException.class, () -> hotel.why(0, 0, 0, 21));
        CHECKS.due("11: could be", 0, () -> hotel.why(0, 0, 0, 20));
        CHECKS.due("11: stock", 6, () -> hotel.why(0, 0, 2, 6));
        CHECKS.dueThrow("11: nothing is refused by it", NoSuchElementException.class, () -> hotel.refusal(false));
        CHECKS.due("11: nothing is laid by it", 0, () -> hotel.account(13));
        CHECKS.due("11: it is no change", 7, () -> hotel.account(16));
        layAndRest(hotel, 0, 0, 5);
        CHECKS.due("11: wider than the lowest", 7, () -> hotel.why(0, 0, 0, 6));
        CHECKS.due("11: as wide as the lowest", 0, () -> hotel.why(0, 0, 0, 5));
    }

    private static void take() {
        SugarTowers hotel = hotel();
        layAndRest(hotel, 1, 0, 7);
        layAndRest(hotel, 1, 1, 3);
        CHECKS.due("12: uppermost", 3, () -> hotel.take(1));
        CHECKS.due("12: into the stock", 20, () -> hotel.stock(1));
        CHECKS.due("12: the last", 7, () -> hotel.take(1));
        CHECKS.due("12: into the stock, too", 40, () -> hotel.stock(0));
        CHECKS.dueThrow("12: no courses", UnsupportedOperationException.class, () -> hotel.take(1));
        CHECKS.due("12: reason", 9, () -> hotel.refusal(false));
        CHECKS.due("12: the tower", 1, () -> hotel.refusal(true));
        CHECKS.dueThrow("12: no tower", IndexOutOfBoundsException.class, () -> hotel.take(2));
        CHECKS.dueThrow("12: tower -1", IndexOutOfBoundsException.class, () -> hotel.take(-1));
    }

    private static void takeOverflows() {
        SugarTowers hotel = new SugarTowers();
        hotel.tower();
        hotel.tower();
        hotel.tongs(10);
        hotel.tongs(10);
        hotel.buy(0, 99);
        for (int i = 0; i < 2; i++) {
            hotel.banquet(hotel.account(0) + 1, 1, 200);
            hotel.lay(0, 0, 0, 1);
            hotel.show(i, 0);
            hotel.pass(1);
        }
        hotel.buy(0, 99);
        hotel.buy(0, 99);
        hotel.lay(1, 1, 0, 20);
        hotel.buy(0, 20);
        CHECKS.due("12: stock before", 295, () -> hotel.stock(0));
        CHECKS.due("12: had 20", 20, () -> hotel.take(1));
        CHECKS.due("12: stock full", 300, () -> hotel.stock(0));
        CHECKS.due("12: the rest broke", 15, () -> hotel.account(11));
        CHECKS.due("12: no course broke", 0, () -> hotel.towerOf(1, 4));
        CHECKS.due("31: well after it", true, hotel::isWell);
        CHECKS.due("33: share", 15f / 317f, hotel::broken);
    }

    private static void courseOf() {
        SugarTowers hotel = hotel();
        layAndRest(hotel, 0, 2, 5);
        layAndRest(hotel, 0, 1, 4);
        layAndRest(hotel, 0, 0, 3);
        CHECKS.due("13: grade", 1, () -> hotel.courseOf(0, 1, 0));
        CHECKS.due("13: cubes", 4, () -> hotel.courseOf(0, 1, 1));
        CHECKS.due("13: above", 3, () -> hotel.courseOf(0, 1, 2));
        CHECKS.due("13: above all", 7, () -> hotel.courseOf(0, 0, 2));
        CHECKS.due("13: firm bears", 32, () -> hotel.courseOf(0, 1, 3));
        CHECKS.due("13: hard bears", 75, () -> hotel.courseOf(0, 0, 3));
        CHECKS.due("13: soft bears", 12, () -> hotel.courseOf(0, 2, 3));
        damp(hotel, 5, 3);
        CHECKS.due("13: dampness", 15, () -> hotel.towerOf(0, 2));
        CHECKS.due("13: damp firm", 28, () -> hotel.courseOf(0, 1, 3));
        CHECKS.dueThrow("13: no tower", IndexOutOfBoundsException.class, () -> hotel.courseOf(2, 0, 9));
        CHECKS.dueThrow("13: no course", IndexOutOfBoundsException.class, () -> hotel.courseOf(0, 3, 9));
        CHECKS.dueThrow("13: course -1", IndexOutOfBoundsException.class, () -> hotel.courseOf(0, -1, 0));
        CHECKS.dueThrow("13: what 4", IllegalArgumentException.class, () -> hotel.courseOf(0, 0, 4));
        CHECKS.dueThrow("13: what -1", IllegalArgumentException.class, () -> hotel.courseOf(0, 0, -1));
    }

    /** Lets hours go by in each of which towers become so much damper, 4 at most; sets the humidity back then. */
    private static void damp(SugarTowers hotel, int hours, int each) {
        int first = hotel.account(0);
        for (int i = 0; i < hours; i++) {
            hotel.humidity((first + i) % 24, 50 + 10 * each);
            hotel.pass(1);
            hotel.humidity((first + i) % 24, 45);
        }
    }

    private static void bearsAgain() {
        SugarTowers hotel = hotel();
        layAndRest(hotel, 0, 2, 5);
        layAndRest(hotel, 0, 0, 4);
        CHECKS.due("14: hard", 75, () -> hotel.bearsAgain(0, 0));
        CHECKS.due("14: soft", 16, () -> hotel.bearsAgain(0, 1));
        damp(hotel, 15, 4);
        CHECKS.due("14: dampness", 60, () -> hotel.towerOf(0, 2));
        CHECKS.due("14: damp hard", 45, () -> hotel.bearsAgain(0, 0));
        CHECKS.due("14: damp soft bears nothing", 0, () -> hotel.bearsAgain(0, 1));
        CHECKS.due("13: damp soft bears nothing", 0, () -> hotel.courseOf(0, 1, 3));
        CHECKS.due("19: nothing is above it", 0, () -> hotel.towerOf(0, 4));
        CHECKS.dueThrow("14: no tower", IndexOutOfBoundsException.class, () -> hotel.bearsAgain(2, 0));
        CHECKS.dueThrow("14: no course", IndexOutOfBoundsException.class, () -> hotel.bearsAgain(0, 2));
        CHECKS.dueThrow("14: course -1", IndexOutOfBoundsException.class, () -> hotel.bearsAgain(0, -1));
    }

    private static void towerOf() {
        SugarTowers hotel = hotel();
        layAndRest(hotel, 0, 0, 5);
        layAndRest(hotel, 0, 0, 5);
        hotel.banquet(50, 1, 1);
        hotel.banquet(51, 1, 1);
        hotel.banquet(52, 1, 1);
        hotel.show(0, 0);
        hotel.show(1, 0);
        hotel.show(2, 1);
        CHECKS.due("15: courses", 2, () -> hotel.towerOf(0, 0));
        CHECKS.due("15: cubes", 10, () -> hotel.towerOf(0, 1));
        CHECKS.due("15: dampness", 0, () -> hotel.towerOf(0, 2));
        CHECKS.due("15: banquets", 2, () -> hotel.towerOf(0, 3));
        CHECKS.due("15: other banquets", 1, () -> hotel.towerOf(1, 3));
        damp(hotel, 10, 4);
        CHECKS.due("15: courses after it broke", 0, () -> hotel.towerOf(0, 0));
        CHECKS.due("15: broken courses", 2, () -> hotel.towerOf(0, 4));
        CHECKS.due("15: dampness of all", 40, () -> hotel.towerOf(1, 2));
        CHECKS.dueThrow("15: no tower", IndexOutOfBoundsException.class, () -> hotel.towerOf(2, 9));
        CHECKS.dueThrow("15: what 5", IllegalArgumentException.class, () -> hotel.towerOf(0, 5));
        CHECKS.dueThrow("15: what -1", IllegalArgumentException.class, () -> hotel.towerOf(0, -1));
    }

    private static void spare() {
        SugarTowers hotel = hotel();
        CHECKS.due("16: no courses", 20, () -> hotel.spare(0));
        layAndRest(hotel, 0, 0, 6);
        CHECKS.due("16: 20 at most", 20, () -> hotel.spare(0));
        layAndRest(hotel, 0, 0, 5);
        CHECKS.due("16: below", 19, () -> hotel.spare(0));
        layAndRest(hotel, 0, 0, 3);
        CHECKS.due("16: the uppermost", 12, () -> hotel.spare(0));
        layAndRest(hotel, 0, 0, 3);
        CHECKS.due("16: a middle one", 9, () -> hotel.spare(0));
        damp(hotel, 5, 2);
        CHECKS.due("16: damp", 6, () -> hotel.spare(0));
        CHECKS.dueThrow("16: no tower", IndexOutOfBoundsException.class, () -> hotel.spare(2));
        CHECKS.dueThrow("16: tower -1", IndexOutOfBoundsException.class, () -> hotel.spare(-1));
    }

    private static void sign() {
        SugarTowers hotel = hotel();
        CHECKS.due("17: n", 'n', () -> hotel.sign(0));
        layAndRest(hotel, 0, 0, 1);
        for (int i = 0; i < 3; i++) {
            layAndRest(hotel, 0, 1, 1);
        }
        CHECKS.due("17: s", 's', () -> hotel.sign(0));
        layAndRest(hotel, 0, 1, 1);
        CHECKS.due("17: w", 'w', () -> hotel.sign(0));
        hotel.take(0);
        CHECKS.due("17: s again", 's', () -> hotel.sign(0));
        layAndRest(hotel, 1, 0, 1);
        damp(hotel, 10, 4);
        CHECKS.due("17: w without anything above", 'w', () -> hotel.sign(1));
        CHECKS.dueThrow("17: no tower", IndexOutOfBoundsException.class, () -> hotel.sign(2));
    }

    private static void stands() {
        SugarTowers hotel = hotel();
        CHECKS.due("18: no courses", true, () -> hotel.stands(0, 99));
        layAndRest(hotel, 0, 0, 4);
        CHECKS.due("18: nothing above", true, () -> hotel.stands(0, 99));
        layAndRest(hotel, 0, 0, 4);
        layAndRest(hotel, 0, 0, 4);
        CHECKS.due("18: at no dampness", true, () -> hotel.stands(0, 0));
        CHECKS.due("18: just", true, () -> hotel.stands(0, 29));
        CHECKS.due("18: just not", false, () -> hotel.stands(0, 30));
        CHECKS.dueThrow("18: no tower", IndexOutOfBoundsException.class, () -> hotel.stands(2, 100));
        CHECKS.dueThrow("18: dampness 100", IllegalArgumentException.class, () -> hotel.stands(0, 100));
        CHECKS.dueThrow("18: dampness -1", IllegalArgumentException.class, () -> hotel.stands(0, -1));
    }

    private static void breaksIn() {
        SugarTowers hotel = hotel();
        layAndRest(hotel, 0, 0, 4);
        layAndRest(hotel, 0, 0, 4);
        layAndRest(hotel, 0, 0, 4);
        CHECKS.dueThrow("19: never", NoSuchElementException.class, () -> hotel.breaksIn(0));
        int now = hotel.account(0);
        hotel.humidity(now % 24, 99);
        hotel.humidity((now + 1) % 24, 39);
        hotel.humidity((now + 2) % 24, 60);
        CHECKS.dueThrow("19: 4 a day is too slow", NoSuchElementException.class, () -> hotel.breaksIn(0));
        for (int i = 3; i < 8; i++) {
            hotel.humidity((now + i) % 24, 70);
        }
        CHECKS.due("19: on the third day", 24 + 24 + 1, () -> hotel.breaksIn(0));
        hotel.banquet(now + 2, 1, 9);
        hotel.show(0, 0);
        CHECKS.due("19: whatever banquets are", 49, () -> hotel.breaksIn(0));
        hotel.cancel(0);
        CHECKS.due("25: not before", 0, () -> hotel.pass(48));
        CHECKS.due("19: in the first hour", 1, () -> hotel.breaksIn(0));
        CHECKS.due("25: all of it", 3, () -> hotel.pass(1));
        CHECKS.dueThrow("19: nothing is left", NoSuchElementException.class, () -> hotel.breaksIn(0));
        CHECKS.dueThrow("19: no tower", IndexOutOfBoundsException.class, () -> hotel.breaksIn(2));
        lastHour();
    }

    private static void lastHour() {
        SugarTowers hotel = new SugarTowers();
        hotel.buy(0, 3);
        hotel.tower();
        hotel.tongs(9);
        layAndRest(hotel, 0, 0, 1);
        layAndRest(hotel, 0, 0, 1);
        layAndRest(hotel, 0, 0, 1);
        hotel.humidity(2, 99);
        hotel.humidity(1, 99);
        hotel.humidity(0, 70);
        CHECKS.due("19: 72 hours", 72, () -> hotel.breaksIn(0));
        hotel.humidity(2, 89);
        CHECKS.dueThrow("19: more than 72 hours", NoSuchElementException.class, () -> hotel.breaksIn(0));
    }
}
