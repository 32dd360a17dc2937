import java.util.NoSuchElementException;

/** Promises 9 to 19, the boundary cases of each. */
public final class TowersEdgesTest {
    private static final Checks CHECKS = new Checks();
    private static final int SOFT = 0;
    private static final int FIRM = 1;
    private static final int HARD = 2;

    public static void main(String[] args) {
        towerAfterUndo();
        layReturnsTheCourse();
        layTakesFromTheStock();
        layIsRefusedAtDampness();
        whyOfEachReason();
        whyKeepsNothing();
        takeUntilTheStockIsFull();
        takeTheLastCourse();
        takeWithBusyTongs();
        takeRefused();
        courseOfTheUppermost();
        bearsAgainIsTheSame();
        towerWithoutCourses();
        banquetsOfATower();
        brokenCoursesAddUp();
        brokenCoursesStayAsATowerIsEaten();
        spareAtMost20();
        spareOfNone();
        spareOfTheWeakestCourse();
        spareWhateverElse();
        signs();
        signByAnyCourse();
        standsAtBothEnds();
        standsAtSomeOtherDampness();
        breaksInOneHour();
        breaksWithin72Hours();
        breaksRoundTheDay();
        breaksNever();
        breaksInOfThisTower();
        breaksThoughABanquetIsHeld();
        breaksInChangesNothing();
        CHECKS.end();
    }

    /** 9: An undone tower makes room, and its number comes again. */
    private static void towerAfterUndo() {
        SugarTowers hotel = new SugarTowers();
        for (int i = 0; i < 6; i++) {
            hotel.tower();
        }
        CHECKS.dueThrow("9: no room", UnsupportedOperationException.class, hotel::tower);
        hotel.undo();
        CHECKS.dueThrow("9: it is not there", IndexOutOfBoundsException.class, () -> hotel.spare(5));
        CHECKS.due("9: room", 5, hotel::tower);
        CHECKS.due("9: no courses", 0, () -> hotel.towerOf(5, 0));
    }

    /** 10: Returns the number of the course, from 0 to 9. */
    private static void layReturnsTheCourse() {
        SugarTowers hotel = Hotels.stocked(2);
        for (int i = 0; i < 10; i++) {
            int course = i;
            CHECKS.due("10: course " + i, course, () -> hotel.lay(1, 0, course == 0 ? HARD : FIRM, 1));
            CHECKS.due("10: of the one tower", course + 1, () -> hotel.towerOf(1, 0));
            hotel.pass(1);
        }
        CHECKS.due("10: course 0 of the other one", 0, () -> hotel.lay(0, 0, SOFT, 1));
    }

    /** 10: The cubes come from the stock, to the last one. */
    private static void layTakesFromTheStock() {
        SugarTowers hotel = Hotels.stocked(2);
        hotel.lay(0, 0, HARD, 10);
        CHECKS.due("10: no hard ones", 0, () -> hotel.stock(HARD));
        CHECKS.due("10: all firm ones", 20, () -> hotel.stock(FIRM));
        CHECKS.due("10: cubes of the tower", 10, () -> hotel.account(10));
        CHECKS.due("10: no coins are paid", 0, () -> hotel.account(1));
        CHECKS.due("10: the tongs are busy", 3, () -> hotel.tongsOf(0, 1));
    }

    /** 10: A course would be too weak at the dampness of its own tower. */
    private static void layIsRefusedAtDampness() {
        SugarTowers hotel = Hotels.stocked(1);
        Hotels.layOnes(hotel, 0, SOFT);
        Hotels.dampen(hotel, 39);
        hotel.tower();
        Hotels.layOnes(hotel, 1, SOFT);
        CHECKS.due("10: bears 1 at 39", 0, () -> hotel.why(0, 0, HARD, 1));
        Hotels.dampen(hotel, 1);
        CHECKS.due("10: bears 0 at 40", 8, () -> hotel.why(0, 0, HARD, 1));
        CHECKS.due("10: the other one is dry", 0, () -> hotel.why(1, 0, HARD, 1));
        hotel.take(0);
        CHECKS.due("10: a lowest course is never too weak", 0, () -> hotel.lay(0, 0, SOFT, 20));
    }

    /** 11: The reason, 0 if it could be. */
    private static void whyOfEachReason() {
        SugarTowers hotel = Hotels.stocked(4);
        hotel.tongs(1);
        hotel.tongs(10);
        Hotels.layOnes(hotel, 0, HARD, FIRM, FIRM, FIRM, FIRM, FIRM, FIRM, FIRM, FIRM, FIRM);
        Hotels.layOnes(hotel, 1, SOFT, HARD, HARD, HARD, HARD);
        hotel.lay(2, 0, SOFT, 1);
        CHECKS.due("11: 0", 0, () -> hotel.why(3, 1, SOFT, 20));
        CHECKS.due("11: 1", 1, () -> hotel.why(0, 2, SOFT, 1));
        CHECKS.due("11: 4", 4, () -> hotel.why(3, 0, SOFT, 1));
        CHECKS.due("11: 5", 5, () -> hotel.why(2, 1, SOFT, 1));
        CHECKS.due("11: 6", 6, () -> hotel.why(3, 1, HARD, 6));
        CHECKS.due("11: 7", 7, () -> hotel.why(2, 2, SOFT, 2));
        CHECKS.due("11: 8", 8, () -> hotel.why(1, 2, HARD, 1));
    }

    /** 11: Nothing is refused by it, so that no reason is kept. */
    private static void whyKeepsNothing() {
        SugarTowers hotel = Hotels.rich(0);
        CHECKS.due("11: too few cubes", 6, () -> hotel.why(0, 0, SOFT, 1));
        CHECKS.dueThrow("11: nothing was refused", NoSuchElementException.class, () -> hotel.refusal(false));
        Checks.answerOf(() -> hotel.take(0));
        CHECKS.due("11: too few cubes again", 6, () -> hotel.why(0, 0, SOFT, 1));
        CHECKS.due("11: the reason of take", 9, () -> hotel.refusal(false));
        hotel.buy(SOFT, 1);
        CHECKS.due("11: it could be", 0, () -> hotel.why(0, 0, SOFT, 1));
        CHECKS.due("11: but it is not", 0, () -> hotel.towerOf(0, 0));
        CHECKS.due("11: the tongs are not busy", 0, () -> hotel.tongsOf(0, 1));
    }

    /** 12: Its cubes come into the stock, and what would be more than 300 there breaks. */
    private static void takeUntilTheStockIsFull() {
        int[] before = {279, 280, 281, 299, 300};
        int[] after = {299, 300, 300, 300, 300};
        int[] broke = {0, 0, 1, 19, 20};
        for (int i = 0; i < before.length; i++) {
            SugarTowers hotel = Hotels.rich(3);
            hotel.buy(FIRM, 20);
            hotel.lay(0, 0, FIRM, 20);
            Hotels.buy(hotel, FIRM, before[i]);
            CHECKS.due("12: it had 20", 20, () -> hotel.take(0));
            CHECKS.due("12: stock after " + before[i], after[i], () -> hotel.stock(FIRM));
            CHECKS.due("12: broke after " + before[i], broke[i], () -> hotel.account(11));
            CHECKS.due("12: all is well", true, hotel::isWell);
        }
        SugarTowers hotel = Hotels.rich(4);
        hotel.tower();
        Hotels.buy(hotel, SOFT, 40);
        Hotels.lay(hotel, 0, SOFT, 20);
        Hotels.lay(hotel, 1, SOFT, 20);
        Hotels.buy(hotel, SOFT, 290);
        hotel.take(0);
        hotel.take(1);
        CHECKS.due("12: 10 and 20 broke", 30, () -> hotel.account(11));
        CHECKS.due("12: a full stock of one grade has room for others", 5, () -> hotel.buy(HARD, 5));
    }

    /** 12: The last course, after which there are none. */
    private static void takeTheLastCourse() {
        SugarTowers hotel = Hotels.stocked(1);
        Hotels.lay(hotel, 0, HARD, 5);
        Hotels.layOnes(hotel, 0, SOFT);
        Hotels.dampen(hotel, 3);
        CHECKS.due("12: the uppermost", 1, () -> hotel.take(0));
        CHECKS.due("12: one is left", 1, () -> hotel.towerOf(0, 0));
        CHECKS.due("12: it bears no more", 0, () -> hotel.courseOf(0, 0, 2));
        CHECKS.due("12: the last", 5, () -> hotel.take(0));
        CHECKS.due("12: none is left", 'n', () -> hotel.sign(0));
        CHECKS.due("12: no cubes are left", 0, () -> hotel.towerOf(0, 1));
        CHECKS.due("12: the dampness stays", 3, () -> hotel.towerOf(0, 2));
        CHECKS.dueThrow("12: no more", UnsupportedOperationException.class, () -> hotel.take(0));
    }

    /** 12: No tongs are needed. */
    private static void takeWithBusyTongs() {
        SugarTowers hotel = Hotels.stocked(1);
        hotel.lay(0, 0, SOFT, 20);
        CHECKS.due("12: taken", 20, () -> hotel.take(0));
        CHECKS.due("12: they are busy still", 5, () -> hotel.tongsOf(0, 1));
    }

    /** 12: Refused for reason 9, also after the courses broke or were eaten. */
    private static void takeRefused() {
        SugarTowers hotel = Hotels.stocked(3);
        Hotels.layOnes(hotel, 1, SOFT, SOFT);
        Hotels.layOnes(hotel, 2, HARD);
        Hotels.dampen(hotel, 39);
        int hour = hotel.account(0);
        hotel.banquet(hour + 1, 1, 1);
        hotel.show(0, 2);
        Hotels.passAt(hotel, 60);
        for (int i = 0; i < 3; i++) {
            int tower = i;
            CHECKS.dueThrow("12: tower " + i, UnsupportedOperationException.class, () -> hotel.take(tower));
            CHECKS.due("12: reason of tower " + i, 9, () -> hotel.refusal(false));
            CHECKS.due("12: detail of tower " + i, tower, () -> hotel.refusal(true));
        }
    }

    /** 13: Of the lowest and the uppermost course, and of none beyond it. */
    private static void courseOfTheUppermost() {
        SugarTowers hotel = Hotels.stocked(1);
        CHECKS.dueThrow("13: of none", IndexOutOfBoundsException.class, () -> hotel.courseOf(0, 0, 0));
        Hotels.lay(hotel, 0, HARD, 2);
        CHECKS.due("13: nothing is above the only one", 0, () -> hotel.courseOf(0, 0, 2));
        Hotels.layOnes(hotel, 0, SOFT);
        int[][] due = {{HARD, 2, 1, 30}, {SOFT, 1, 0, 4}};
        for (int i = 0; i < 2; i++) {
            for (int j = 0; j < 4; j++) {
                int course = i;
                int what = j;
                CHECKS.due("13: course " + i + ", what " + j, due[i][j], () -> hotel.courseOf(0, course, what));
            }
        }
        CHECKS.dueThrow("13: beyond", IndexOutOfBoundsException.class, () -> hotel.courseOf(0, 2, 0));
        hotel.take(0);
        CHECKS.dueThrow("13: taken off", IndexOutOfBoundsException.class, () -> hotel.courseOf(0, 1, 0));
        Hotels.layOnes(hotel, 0, FIRM);
        CHECKS.due("13: another one", FIRM, () -> hotel.courseOf(0, 1, 0));
    }

    /** 14: The same as courseOf tells, cube by cube, also of 1 and of 20 cubes and at the dampness 99. */
    private static void bearsAgainIsTheSame() {
        SugarTowers hotel = Hotels.rich(2);
        hotel.buy(HARD, 21);
        Hotels.lay(hotel, 0, HARD, 20);
        Hotels.layOnes(hotel, 0, HARD);
        int[] due = {300, 15};
        int[] damp = {120, 6};
        for (int i = 0; i < 2; i++) {
            int course = i;
            CHECKS.due("14: course " + i, due[i], () -> hotel.bearsAgain(0, course));
            CHECKS.due("13: course " + i, due[i], () -> hotel.courseOf(0, course, 3));
        }
        Hotels.dampen(hotel, 99);
        for (int i = 0; i < 2; i++) {
            int course = i;
            CHECKS.due("14: course " + i + " at 99", damp[i], () -> hotel.bearsAgain(0, course));
            CHECKS.due("13: course " + i + " at 99", damp[i], () -> hotel.courseOf(0, course, 3));
        }
    }

    /** 15 to 18: Of a tower without courses. */
    private static void towerWithoutCourses() {
        SugarTowers hotel = new SugarTowers();
        hotel.tower();
        for (int i = 0; i < 5; i++) {
            int what = i;
            CHECKS.due("15: what " + i, 0, () -> hotel.towerOf(0, what));
        }
        CHECKS.due("16: 20 at most", 20, () -> hotel.spare(0));
        CHECKS.due("17: n", 'n', () -> hotel.sign(0));
        CHECKS.due("18: dry", true, () -> hotel.stands(0, 0));
        CHECKS.due("18: damp", true, () -> hotel.stands(0, 99));
        Hotels.dampen(hotel, 99);
        CHECKS.due("15: dampness", 99, () -> hotel.towerOf(0, 2));
        CHECKS.due("16: 20 at most, damp", 20, () -> hotel.spare(0));
        CHECKS.due("17: n, damp", 'n', () -> hotel.sign(0));
    }

    /** 15: How many banquets that wait have it: neither those that were dropped, held or spoilt, nor shown elsewhere. */
    private static void banquetsOfATower() {
        SugarTowers hotel = Hotels.stocked(2);
        for (int i = 0; i < 6; i++) {
            hotel.banquet(i < 2 ? 2 : 90, i == 0 ? 1 : 2, 1);
            hotel.show(i, 1);
        }
        CHECKS.due("15: six", 6, () -> hotel.towerOf(1, 3));
        hotel.cancel(5);
        CHECKS.due("15: dropped", 5, () -> hotel.towerOf(1, 3));
        hotel.show(4, 0);
        CHECKS.due("15: elsewhere", 4, () -> hotel.towerOf(1, 3));
        CHECKS.due("15: there", 1, () -> hotel.towerOf(0, 3));
        Hotels.layOnes(hotel, 1, HARD);
        hotel.pass(1);
        CHECKS.due("15: one was held, one was spoilt", 1, () -> hotel.account(6) * hotel.account(7));
        CHECKS.due("15: two wait", 2, () -> hotel.towerOf(1, 3));
        hotel.undo();
        CHECKS.due("15: four wait again", 4, () -> hotel.towerOf(1, 3));
    }

    /** 15: The courses that broke so far, of each tower; 25 and 30: and of all. */
    private static void brokenCoursesAddUp() {
        SugarTowers hotel = Hotels.stocked(2);
        Hotels.layOnes(hotel, 0, SOFT, SOFT);
        Hotels.lay(hotel, 1, SOFT, 3);
        Hotels.lay(hotel, 1, SOFT, 3);
        Hotels.layOnes(hotel, 1, SOFT);
        Hotels.dampen(hotel, 26);
        Hotels.humidityOfAllHours(hotel, 90);
        CHECKS.due("25: 3 in the first hour, 2 in the fourth", 5, () -> hotel.pass(24));
        CHECKS.due("15: tower 0", 2, () -> hotel.towerOf(0, 4));
        CHECKS.due("15: tower 1", 3, () -> hotel.towerOf(1, 4));
        CHECKS.due("30: cubes", 9, () -> hotel.account(11));
        Hotels.layOnes(hotel, 0, SOFT);
        CHECKS.due("15: courses of before are not there", 1, () -> hotel.towerOf(0, 0));
        Hotels.humidityOfAllHours(hotel, 0);
        hotel.pass(72);
        Hotels.humidityOfAllHours(hotel, 45);
        Hotels.dampen(hotel, 39 - hotel.towerOf(0, 2));
        Hotels.layOnes(hotel, 0, SOFT);
        CHECKS.due("15: two courses again", 2, () -> hotel.towerOf(0, 0));
        CHECKS.due("25: they break", 2, () -> Hotels.passAt(hotel, 60));
        CHECKS.due("15: in all", 4, () -> hotel.towerOf(0, 4));
        CHECKS.due("30: cubes in all", 11, () -> hotel.account(11));
        CHECKS.due("25: none in another hour", 0, () -> hotel.pass(1));
        CHECKS.due("33: share", 11f / 60f, hotel::broken);
    }

    /** 15: The courses that broke so far, also after what was laid then is eaten or taken off. */
    private static void brokenCoursesStayAsATowerIsEaten() {
        SugarTowers hotel = Hotels.stocked(1);
        Hotels.layOnes(hotel, 0, SOFT, HARD);
        Hotels.dampen(hotel, 40);
        CHECKS.due("15: two broke", 2, () -> hotel.towerOf(0, 4));
        Hotels.layOnes(hotel, 0, HARD, HARD);
        hotel.take(0);
        CHECKS.due("15: as one is taken off", 2, () -> hotel.towerOf(0, 4));
        hotel.show(hotel.banquet(hotel.account(0) + 1, 1, 1), 0);
        hotel.pass(1);
        CHECKS.due("12: eaten", 1, () -> hotel.account(12));
        CHECKS.due("15: as one is eaten", 2, () -> hotel.towerOf(0, 4));
    }

    /** 16: 20 at most. */
    private static void spareAtMost20() {
        int[] cubes = {4, 5, 6, 20};
        int[] due = {16, 20, 20, 20};
        for (int i = 0; i < cubes.length; i++) {
            SugarTowers hotel = Hotels.stocked(1);
            Hotels.lay(hotel, 0, SOFT, cubes[i]);
            CHECKS.due("16: it bears " + 4 * cubes[i], due[i], () -> hotel.spare(0));
        }
        SugarTowers firm = Hotels.stocked(1);
        Hotels.lay(firm, 0, FIRM, 3);
        Hotels.lay(firm, 0, HARD, 3);
        CHECKS.due("16: 24 less 3 is more than 20", 20, () -> firm.spare(0));
        Hotels.layOnes(firm, 0, HARD);
        CHECKS.due("16: 24 less 4 is 20, but 15 is borne by the uppermost", 15, () -> firm.spare(0));
    }

    /** 16: None, if a course bears just what is above it. */
    private static void spareOfNone() {
        SugarTowers hotel = Hotels.stocked(2);
        Hotels.layOnes(hotel, 0, SOFT, HARD, HARD, HARD);
        CHECKS.due("16: one", 1, () -> hotel.spare(0));
        Hotels.layOnes(hotel, 0, HARD);
        CHECKS.due("16: none", 0, () -> hotel.spare(0));
        Hotels.layOnes(hotel, 1, SOFT);
        hotel.take(0);
        CHECKS.due("16: one again", 1, () -> hotel.spare(0));
        hotel.take(0);
        hotel.take(0);
        hotel.take(0);
        Hotels.dampen(hotel, 40);
        CHECKS.due("16: none at the dampness 40", 0, () -> hotel.spare(0));
        CHECKS.due("16: none of the other tower", 0, () -> hotel.spare(1));
    }

    /** 16: So that no course would be too weak: the lowest, a middle or the uppermost one decides. */
    private static void spareOfTheWeakestCourse() {
        SugarTowers lowest = Hotels.stocked(1);
        Hotels.lay(lowest, 0, SOFT, 3);
        Hotels.lay(lowest, 0, HARD, 3);
        Hotels.lay(lowest, 0, FIRM, 3);
        CHECKS.due("16: the lowest bears 12 and has 6 above", 6, () -> lowest.spare(0));
        SugarTowers middle = Hotels.stocked(1);
        Hotels.lay(middle, 0, HARD, 3);
        Hotels.lay(middle, 0, SOFT, 3);
        Hotels.lay(middle, 0, FIRM, 3);
        CHECKS.due("16: the middle one bears 12 and has 3 above", 9, () -> middle.spare(0));
        SugarTowers uppermost = Hotels.stocked(1);
        Hotels.lay(uppermost, 0, HARD, 3);
        Hotels.lay(uppermost, 0, FIRM, 3);
        Hotels.layOnes(uppermost, 0, SOFT);
        CHECKS.due("16: the uppermost bears 4", 4, () -> uppermost.spare(0));
    }

    /** 16: Whatever the stock, tongs and the course below are. */
    private static void spareWhateverElse() {
        SugarTowers hotel = Hotels.rich(0);
        hotel.buy(HARD, 1);
        hotel.lay(0, 0, HARD, 1);
        CHECKS.due("16: no cubes, busy tongs, one cube below", 15, () -> hotel.spare(0));
        SugarTowers none = new SugarTowers();
        none.tower();
        CHECKS.due("16: no tongs at all", 20, () -> none.spare(0));
    }

    /** 17: "n" without courses, "w" if a course could bear no cube more, otherwise "s". */
    private static void signs() {
        SugarTowers hotel = Hotels.stocked(2);
        CHECKS.due("17: none", 'n', () -> hotel.sign(0));
        Hotels.layOnes(hotel, 0, SOFT);
        CHECKS.due("17: 4 more", 's', () -> hotel.sign(0));
        Hotels.layOnes(hotel, 0, HARD, HARD, HARD);
        CHECKS.due("17: 1 more", 's', () -> hotel.sign(0));
        Hotels.layOnes(hotel, 0, HARD);
        CHECKS.due("17: no more", 'w', () -> hotel.sign(0));
        CHECKS.due("17: the other one", 'n', () -> hotel.sign(1));
        CHECKS.due("17: it breaks", 5, () -> {
            Hotels.dampen(hotel, 9);
            return Hotels.passAt(hotel, 60);
        });
        CHECKS.due("17: none again", 'n', () -> hotel.sign(0));
        Hotels.layOnes(hotel, 1, SOFT);
        Hotels.dampen(hotel, 29);
        CHECKS.due("17: 1 more at the dampness 39", 's', () -> hotel.sign(1));
        Hotels.dampen(hotel, 1);
        CHECKS.due("17: no more at the dampness 40", 'w', () -> hotel.sign(1));
    }

    /** 17: "w" if a course could bear no cube more, be it the lowest, a middle or the uppermost one. */
    private static void signByAnyCourse() {
        SugarTowers lowest = Hotels.stocked(1);
        Hotels.layOnes(lowest, 0, SOFT, HARD, HARD, HARD);
        Hotels.dampen(lowest, 10);
        CHECKS.due("17: the lowest bears 3 and has 3 above", 'w', () -> lowest.sign(0));
        CHECKS.due("17: none to spare", 0, () -> lowest.spare(0));
        SugarTowers middle = Hotels.stocked(1);
        Hotels.lay(middle, 0, HARD, 5);
        Hotels.layOnes(middle, 0, SOFT, FIRM);
        Hotels.dampen(middle, 20);
        CHECKS.due("17: the middle one bears 2 and has 1 above", 's', () -> middle.sign(0));
        Hotels.dampen(middle, 10);
        CHECKS.due("17: the middle one bears 1 and has 1 above", 'w', () -> middle.sign(0));
        SugarTowers uppermost = Hotels.stocked(1);
        Hotels.lay(uppermost, 0, HARD, 5);
        Hotels.layOnes(uppermost, 0, FIRM, SOFT);
        Hotels.dampen(uppermost, 39);
        CHECKS.due("17: the uppermost bears 1", 's', () -> uppermost.sign(0));
        Hotels.dampen(uppermost, 1);
        CHECKS.due("17: the uppermost bears 0", 'w', () -> uppermost.sign(0));
        uppermost.take(0);
        CHECKS.due("17: without it", 's', () -> uppermost.sign(0));
    }

    /** 18: At the dampness 0 and 99. */
    private static void standsAtBothEnds() {
        SugarTowers hotel = Hotels.stocked(2);
        Hotels.layOnes(hotel, 0, SOFT, HARD, HARD, HARD, HARD);
        CHECKS.due("18: 4 above at 0", true, () -> hotel.stands(0, 0));
        CHECKS.due("18: 4 above at 9", true, () -> hotel.stands(0, 9));
        CHECKS.due("18: 4 above at 10", false, () -> hotel.stands(0, 10));
        CHECKS.due("18: 4 above at 99", false, () -> hotel.stands(0, 99));
        Hotels.layOnes(hotel, 1, HARD, FIRM);
        CHECKS.due("18: hard ones bear 6 at 99", true, () -> hotel.stands(1, 99));
        Hotels.layOnes(hotel, 1, FIRM);
        CHECKS.due("18: firm ones bear 1 at 79", true, () -> hotel.stands(1, 79));
        CHECKS.due("18: firm ones bear 0 at 80", false, () -> hotel.stands(1, 80));
    }

    /** 18: At some dampness, whatever its own one is. */
    private static void standsAtSomeOtherDampness() {
        SugarTowers hotel = Hotels.stocked(1);
        Hotels.layOnes(hotel, 0, SOFT, HARD);
        Hotels.dampen(hotel, 39);
        CHECKS.due("18: drier", true, () -> hotel.stands(0, 0));
        CHECKS.due("18: its own", true, () -> hotel.stands(0, 39));
        CHECKS.due("18: damper", false, () -> hotel.stands(0, 40));
        CHECKS.due("18: it is as damp as it was", 39, () -> hotel.towerOf(0, 2));
        CHECKS.due("18: and there", 2, () -> hotel.towerOf(0, 0));
    }

    /** The hour 3, and tower 0 of three courses, of which the lowest one breaks at the dampness 30. */
    private static SugarTowers breakable() {
        SugarTowers hotel = Hotels.stocked(1);
        Hotels.layOnes(hotel, 0, SOFT, HARD, HARD);
        return hotel;
    }

    /** 19: In one hour. */
    private static void breaksInOneHour() {
        SugarTowers hotel = breakable();
        Hotels.dampen(hotel, 29);
        int hourOfDay = hotel.account(0) % 24;
        CHECKS.dueThrow("19: not as it is", NoSuchElementException.class, () -> hotel.breaksIn(0));
        hotel.humidity(hourOfDay, 59);
        CHECKS.dueThrow("19: not at 59", NoSuchElementException.class, () -> hotel.breaksIn(0));
        hotel.humidity(hourOfDay, 60);
        CHECKS.due("19: in the hour that is now", 1, () -> hotel.breaksIn(0));
        CHECKS.due("25: it does", 3, () -> hotel.pass(1));
    }

    /** 19: Throws if none would within 72 hours: 72 is within them, 73 is not. */
    private static void breaksWithin72Hours() {
        for (int i = 0; i < 2; i++) {
            SugarTowers hotel = breakable();
            Hotels.dampen(hotel, 27 - i);
            int last = (hotel.account(0) + 23) % 24;
            hotel.humidity(last, 60);
            if (i == 0) {
                CHECKS.due("19: 3 days of 1 each", 72, () -> hotel.breaksIn(0));
                CHECKS.due("25: not in 71 hours", 0, () -> hotel.pass(71));
                CHECKS.due("25: in the last one", 3, () -> hotel.pass(1));
            } else {
                CHECKS.dueThrow("19: 4 days", NoSuchElementException.class, () -> hotel.breaksIn(0));
                hotel.pass(23);
                CHECKS.dueThrow("19: 73 hours", NoSuchElementException.class, () -> hotel.breaksIn(0));
                hotel.pass(1);
                CHECKS.due("19: 72 hours", 72, () -> hotel.breaksIn(0));
            }
        }
    }

    /** 19: Round the day. */
    private static void breaksRoundTheDay() {
        SugarTowers hotel = breakable();
        Hotels.dampen(hotel, 26);
        hotel.pass(23 - hotel.account(0));
        hotel.humidity(0, 90);
        CHECKS.due("19: the hour 24", 2, () -> hotel.breaksIn(0));
        hotel.humidity(22, 90);
        hotel.humidity(0, 45);
        CHECKS.due("19: the hour 46", 24, () -> hotel.breaksIn(0));
    }

    /** 19: Never without courses, with a single one, or if it dries. */
    private static void breaksNever() {
        SugarTowers hotel = Hotels.stocked(2);
        Hotels.humidityOfAllHours(hotel, 99);
        CHECKS.dueThrow("19: no courses", NoSuchElementException.class, () -> hotel.breaksIn(0));
        hotel.lay(0, 0, SOFT, 20);
        CHECKS.dueThrow("19: a single one", NoSuchElementException.class, () -> hotel.breaksIn(0));
        SugarTowers dry = breakable();
        Hotels.dampen(dry, 29);
        Hotels.humidityOfAllHours(dry, 39);
        CHECKS.dueThrow("19: it dries", NoSuchElementException.class, () -> dry.breaksIn(0));
        for (int hourOfDay = 0; hourOfDay < 23; hourOfDay++) {
            dry.humidity(hourOfDay, 0);
        }
        dry.humidity((dry.account(0) + 23) % 24, 90);
        CHECKS.dueThrow("19: 22 or 23 drier and 4 damper each day", NoSuchElementException.class,
                () -> dry.breaksIn(0));
        SugarTowers strong = Hotels.stocked(1);
        Hotels.layOnes(strong, 0, HARD, HARD, HARD);
        Hotels.humidityOfAllHours(strong, 99);
        CHECKS.dueThrow("19: it stands at 99", NoSuchElementException.class, () -> strong.breaksIn(0));
    }

    /** 19: A course of this tower, neither of one that breaks before nor of one that breaks after it. */
    private static void breaksInOfThisTower() {
        SugarTowers hotel = Hotels.stocked(4);
        Hotels.layOnes(hotel, 0, SOFT, HARD, HARD);
        Hotels.layOnes(hotel, 1, SOFT, HARD, HARD, HARD);
        Hotels.layOnes(hotel, 2, FIRM, HARD);
        Hotels.layOnes(hotel, 3, HARD, FIRM);
        Hotels.humidityOfAllHours(hotel, 90);
        CHECKS.due("19: at 32", 8, () -> hotel.breaksIn(0));
        CHECKS.due("19: at 20", 5, () -> hotel.breaksIn(1));
        CHECKS.due("19: at 80", 20, () -> hotel.breaksIn(2));
        CHECKS.dueThrow("19: never", NoSuchElementException.class, () -> hotel.breaksIn(3));
        CHECKS.due("25: only tower 1", 4, () -> hotel.pass(5));
        CHECKS.due("19: 5 hours less", 3, () -> hotel.breaksIn(0));
        CHECKS.dueThrow("19: no more", NoSuchElementException.class, () -> hotel.breaksIn(1));
        CHECKS.due("19: 5 hours less, too", 15, () -> hotel.breaksIn(2));
    }

    /** 19: If no banquet was held, although one would be. */
    private static void breaksThoughABanquetIsHeld() {
        SugarTowers hotel = breakable();
        Hotels.humidityOfAllHours(hotel, 90);
        CHECKS.due("19: 7 times 4 is 28, 8 times is 32", 8, () -> hotel.breaksIn(0));
        hotel.banquet(5, 1, 1);
        hotel.show(0, 0);
        CHECKS.due("19: the same", 8, () -> hotel.breaksIn(0));
        CHECKS.due("25: it is eaten before", 0, () -> hotel.pass(8));
        CHECKS.due("25: all of it", 3, () -> hotel.account(12));
    }

    /** 19: No hour goes by. */
    private static void breaksInChangesNothing() {
        SugarTowers hotel = breakable();
        Hotels.humidityOfAllHours(hotel, 90);
        hotel.banquet(5, 1, 1);
        String before = State.of(hotel);
        CHECKS.due("19: 8 hours", 8, () -> hotel.breaksIn(0));
        CHECKS.due("19: all is as before", before, () -> State.of(hotel));
    }
}
