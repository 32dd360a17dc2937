import java.util.NoSuchElementException;

/** 'Terms': banquets, and what happens as an hour goes by; each sentence with its boundary cases. */
public final class TermsOfHoursTest {
    private static final Checks CHECKS = new Checks();
    private static final int SOFT = 0;
    private static final int FIRM = 1;
    private static final int HARD = 2;

    public static void main(String[] args) {
        sixBanquetsWait();
        numberedInAll();
        coursesAndCoinsOfABanquet();
        noTowerAtFirst();
        towerOfSeveralBanquets();
        towerStaysTheOneOfABanquet();
        dampnessByHumidity();
        dampnessAtMost99();
        dampnessAtLeast0();
        dampnessOfEachTower();
        dampBeforeItBreaks();
        breaksOnlyIfTooWeak();
        lowestOfSeveralWeakCourses();
        eachTowerBreaks();
        cubesAreLost();
        tongsRest();
        hourBecomesOneMore();
        heldInItsHour();
        severalHoursGoByOneByOne();
        asManyCoursesOrMore();
        spoiltOtherwise();
        heldByNumbers();
        sixOfOneHour();
        breaksBeforeABanquet();
        dampBeforeABanquet();
        CHECKS.end();
    }

    /** At most 6 banquets wait. */
    private static void sixBanquetsWait() {
        SugarTowers hotel = new SugarTowers();
        for (int i = 0; i < 6; i++) {
            int number = i;
            CHECKS.due("banquet " + i, number, () -> hotel.banquet(3 + number, 1, 1));
        }
        CHECKS.dueThrow("the seventh", UnsupportedOperationException.class, () -> hotel.banquet(3, 1, 1));
        CHECKS.due("six wait", 6, () -> hotel.account(5));
        hotel.pass(2);
        CHECKS.dueThrow("the seventh, still", UnsupportedOperationException.class, () -> hotel.banquet(9, 1, 1));
        hotel.pass(1);
        CHECKS.due("there is room as one was held", 6, () -> hotel.banquet(9, 1, 1));
        CHECKS.dueThrow("and no room again", UnsupportedOperationException.class, () -> hotel.banquet(9, 1, 1));
        hotel.cancel(3);
        CHECKS.due("there is room as one was dropped", 7, () -> hotel.banquet(9, 1, 1));
    }

    /** Banquets are numbered from 0 in all, as they come. */
    private static void numberedInAll() {
        SugarTowers hotel = new SugarTowers();
        CHECKS.due("the first", 0, () -> hotel.banquet(9, 1, 1));
        hotel.cancel(0);
        CHECKS.due("after one that was dropped", 1, () -> hotel.banquet(1, 1, 1));
        hotel.pass(1);
        CHECKS.due("after one that was held", 2, () -> hotel.banquet(9, 1, 1));
        Checks.answerOf(() -> hotel.banquet(1, 1, 1));
        CHECKS.due("after one that was refused", 3, () -> hotel.banquet(2, 1, 1));
        hotel.undo();
        CHECKS.due("after one that was undone", 3, () -> hotel.banquet(9, 1, 1));
        for (int i = 4; i < 120; i++) {
            int number = i;
            CHECKS.due("number " + i, number, () -> hotel.banquet(9, 1, 1));
            hotel.cancel(number);
        }
        hotel.banquet(9, 1, 7);
        CHECKS.due("a number of three digits", 7, () -> hotel.banquetOf(120, 2));
    }

    /** A banquet has a number of courses from 1 to 10, and coins from 1 to 200. */
    private static void coursesAndCoinsOfABanquet() {
        SugarTowers hotel = new SugarTowers();
        CHECKS.due("the least", 0, () -> hotel.banquet(1, 1, 1));
        CHECKS.due("the most", 1, () -> hotel.banquet(1, 10, 200));
        CHECKS.due("1 course", 1, () -> hotel.banquetOf(0, 1));
        CHECKS.due("1 coin", 1, () -> hotel.banquetOf(0, 2));
        CHECKS.due("10 courses", 10, () -> hotel.banquetOf(1, 1));
        CHECKS.due("200 coins", 200, () -> hotel.banquetOf(1, 2));
        CHECKS.dueThrow("0 courses", IllegalArgumentException.class, () -> hotel.banquet(1, 0, 1));
        CHECKS.dueThrow("11 courses", IllegalArgumentException.class, () -> hotel.banquet(1, 11, 1));
        CHECKS.dueThrow("0 coins", IllegalArgumentException.class, () -> hotel.banquet(1, 1, 0));
        CHECKS.dueThrow("201 coins", IllegalArgumentException.class, () -> hotel.banquet(1, 1, 201));
    }

    /** A banquet has a tower, or none, as at first. */
    private static void noTowerAtFirst() {
        SugarTowers hotel = Hotels.rich(0);
        hotel.banquet(9, 2, 1);
        CHECKS.due("none at first", -1, () -> hotel.banquetOf(0, 3));
        CHECKS.due("tower 0 is not its tower", 0, () -> hotel.towerOf(0, 3));
        hotel.show(0, 0);
        CHECKS.due("tower 0", 0, () -> hotel.banquetOf(0, 3));
        hotel.cancel(0);
        hotel.banquet(9, 2, 1);
        CHECKS.due("none at first, whatever an earlier one had", -1, () -> hotel.banquetOf(1, 3));
    }

    /** A tower can be the one of several banquets. */
    private static void towerOfSeveralBanquets() {
        SugarTowers hotel = Hotels.rich(0);
        for (int i = 0; i < 6; i++) {
            int number = hotel.banquet(9, 1, 1);
            CHECKS.due("shown at " + i, 1, () -> hotel.show(number, 0));
            CHECKS.due("banquets that have it", number + 1, () -> hotel.towerOf(0, 3));
        }
        CHECKS.due("the first one still has it", 0, () -> hotel.banquetOf(0, 3));
    }

    private static void bothHaveTower1(String when, SugarTowers hotel) {
        CHECKS.due("no courses " + when, 0, () -> hotel.towerOf(1, 0));
        CHECKS.due("banquets that have it " + when, 2, () -> hotel.towerOf(1, 3));
        CHECKS.due("the first one has it " + when, 1, () -> hotel.banquetOf(0, 3));
        CHECKS.due("the second one has it " + when, 1, () -> hotel.banquetOf(1, 3));
    }

    /** It stays the one of those that wait, as its courses are taken off, break or are eaten, and as others go. */
    private static void towerStaysTheOneOfABanquet() {
        SugarTowers hotel = Hotels.stocked(2);
        hotel.banquet(90, 1, 1);
        hotel.banquet(91, 1, 1);
        hotel.show(0, 1);
        hotel.show(1, 1);
        Hotels.layOnes(hotel, 1, SOFT);
        hotel.take(1);
        bothHaveTower1("as the last course is taken off", hotel);
        Hotels.layOnes(hotel, 1, SOFT);
        int hour = hotel.account(0);
        hotel.banquet(hour + 1, 1, 1);
        hotel.show(2, 1);
        hotel.banquet(hour + 1, 1, 1);
        hotel.show(3, 0);
        hotel.pass(1);
        bothHaveTower1("as it was eaten", hotel);
        hotel.cancel(hotel.banquet(99, 1, 1));
        bothHaveTower1("as another banquet was dropped", hotel);
        Hotels.layOnes(hotel, 1, SOFT, SOFT);
        Hotels.dampen(hotel, 40);
        CHECKS.due("all of it broke", 2, () -> hotel.towerOf(1, 4));
        bothHaveTower1("as all of it broke", hotel);
    }

    /**
     * The dampness becomes a tenth of what the humidity is above 50 more; if the humidity is below 40, it becomes 1
     * less.
     */
    private static void dampnessByHumidity() {
        int[][] due = {{0, 19}, {1, 19}, {39, 19}, {40, 20}, {41, 20}, {49, 20}, {50, 20}, {51, 20}, {59, 20},
            {60, 21}, {69, 21}, {70, 22}, {79, 22}, {80, 23}, {89, 23}, {90, 24}, {99, 24}};
        for (int[] row : due) {
            SugarTowers hotel = new SugarTowers();
            hotel.tower();
            Hotels.dampen(hotel, 20);
            Hotels.passAt(hotel, row[0]);
            CHECKS.due("20 at a humidity of " + row[0], row[1], () -> hotel.towerOf(0, 2));
        }
    }

    /** But at most 99. */
    private static void dampnessAtMost99() {
        SugarTowers hotel = new SugarTowers();
        hotel.tower();
        Hotels.humidityOfAllHours(hotel, 99);
        hotel.pass(24);
        CHECKS.due("24 times 4", 96, () -> hotel.towerOf(0, 2));
        hotel.pass(1);
        CHECKS.due("99, not 100", 99, () -> hotel.towerOf(0, 2));
        hotel.pass(72);
        CHECKS.due("99 still", 99, () -> hotel.towerOf(0, 2));
        Hotels.passAt(hotel, 39);
        CHECKS.due("1 less than 99", 98, () -> hotel.towerOf(0, 2));
        Hotels.passAt(hotel, 60);
        CHECKS.due("99 by 1 more", 99, () -> hotel.towerOf(0, 2));
    }

    /** But at least 0. */
    private static void dampnessAtLeast0() {
        SugarTowers hotel = new SugarTowers();
        hotel.tower();
        Hotels.dampen(hotel, 2);
        Hotels.humidityOfAllHours(hotel, 39);
        hotel.pass(1);
        CHECKS.due("1", 1, () -> hotel.towerOf(0, 2));
        hotel.pass(1);
        CHECKS.due("0", 0, () -> hotel.towerOf(0, 2));
        hotel.pass(72);
        CHECKS.due("0 still", 0, () -> hotel.towerOf(0, 2));
        Hotels.passAt(hotel, 60);
        CHECKS.due("1 more than 0", 1, () -> hotel.towerOf(0, 2));
    }

    /** The dampness of each tower, also of one without courses, from the first to the sixth. */
    private static void dampnessOfEachTower() {
        SugarTowers hotel = new SugarTowers();
        for (int i = 0; i < 6; i++) {
            hotel.tower();
            Hotels.passAt(hotel, 60);
        }
        for (int i = 0; i < 6; i++) {
            int tower = i;
            CHECKS.due("tower " + i, 6 - tower, () -> hotel.towerOf(tower, 2));
        }
    }

    /** First the dampness; second, a course that is too weak by then breaks in the same hour. */
    private static void dampBeforeItBreaks() {
        SugarTowers hotel = Hotels.stocked(1);
        Hotels.layOnes(hotel, 0, SOFT, HARD, HARD, HARD, HARD);
        Hotels.dampen(hotel, 9);
        CHECKS.due("4 is borne at 9", 5, () -> hotel.towerOf(0, 0));
        CHECKS.due("3 alone is borne at 10", 5, () -> Hotels.passAt(hotel, 60));
        CHECKS.due("at 10", 10, () -> hotel.towerOf(0, 2));
    }

    /** A course that bears just as much as is above it does not break. */
    private static void breaksOnlyIfTooWeak() {
        SugarTowers hotel = Hotels.stocked(1);
        Hotels.layOnes(hotel, 0, SOFT, HARD, HARD, HARD);
        Hotels.dampen(hotel, 19);
        CHECKS.due("3 above, it bears 3", 4, () -> hotel.towerOf(0, 0));
        CHECKS.due("none broke", 0, () -> hotel.account(11));
        CHECKS.due("3 above, it bears 2", 4, () -> Hotels.passAt(hotel, 60));
    }

    /** The lowest such course and all above it break. */
    private static void lowestOfSeveralWeakCourses() {
        SugarTowers hotel = Hotels.stocked(1);
        Hotels.lay(hotel, 0, HARD, 4);
        Hotels.lay(hotel, 0, SOFT, 3);
        Hotels.lay(hotel, 0, HARD, 3);
        Hotels.lay(hotel, 0, SOFT, 1);
        Hotels.layOnes(hotel, 0, FIRM, FIRM);
        Hotels.dampen(hotel, 29);
        CHECKS.due("before", 6, () -> hotel.towerOf(0, 0));
        CHECKS.due("course 1 bears 6", 6, () -> hotel.courseOf(0, 1, 3));
        CHECKS.due("6 are above course 1", 6, () -> hotel.courseOf(0, 1, 2));
        CHECKS.due("course 3 bears 2", 2, () -> hotel.courseOf(0, 3, 3));
        CHECKS.due("2 are above course 3", 2, () -> hotel.courseOf(0, 3, 2));
        CHECKS.due("both are too weak then, course 1 breaks", 5, () -> Hotels.passAt(hotel, 60));
        CHECKS.due("the lowest course stays", 1, () -> hotel.towerOf(0, 0));
        CHECKS.due("it is the hard one", HARD, () -> hotel.courseOf(0, 0, 0));
        CHECKS.due("cubes that broke", 9, () -> hotel.account(11));
        SugarTowers high = Hotels.stocked(1);
        Hotels.layOnes(high, 0, HARD, HARD, SOFT, FIRM);
        Hotels.dampen(high, 39);
        CHECKS.due("only the weak one and what is above", 2, () -> Hotels.passAt(high, 60));
        CHECKS.due("two stay", 2, () -> high.towerOf(0, 0));
    }

    /** From each tower by numbers that has a course that is too weak. */
    private static void eachTowerBreaks() {
        SugarTowers hotel = Hotels.stocked(6);
        for (int tower = 0; tower < 6; tower++) {
            Hotels.layOnes(hotel, tower, tower == 3 ? HARD : SOFT, SOFT);
        }
        Hotels.dampen(hotel, 39);
        CHECKS.due("five of six break", 10, () -> Hotels.passAt(hotel, 60));
        for (int i = 0; i < 6; i++) {
            int tower = i;
            CHECKS.due("courses of tower " + i, tower == 3 ? 2 : 0, () -> hotel.towerOf(tower, 0));
            CHECKS.due("broken courses of tower " + i, tower == 3 ? 0 : 2, () -> hotel.towerOf(tower, 4));
        }
        Hotels.dampen(hotel, 40);
        CHECKS.due("a single course never breaks", 2, () -> hotel.towerOf(3, 0));
    }

    /** Their cubes are lost. */
    private static void cubesAreLost() {
        SugarTowers hotel = Hotels.stocked(1);
        Hotels.lay(hotel, 0, SOFT, 3);
        Hotels.lay(hotel, 0, FIRM, 3);
        int soft = hotel.stock(SOFT);
        int firm = hotel.stock(FIRM);
        Hotels.dampen(hotel, 40);
        CHECKS.due("they broke", 6, () -> hotel.account(11));
        CHECKS.due("not in a tower", 0, () -> hotel.account(10));
        CHECKS.due("soft ones not in the stock", soft, () -> hotel.stock(SOFT));
        CHECKS.due("firm ones not in the stock", firm, () -> hotel.stock(FIRM));
        CHECKS.due("not eaten", 0, () -> hotel.account(12));
        CHECKS.due("they were bought", 60, () -> hotel.account(8));
    }

    /** Third, tongs that are busy are so for an hour less; others stay as they are. */
    private static void tongsRest() {
        SugarTowers hotel = Hotels.stocked(2);
        hotel.tongs(5);
        hotel.tongs(6);
        hotel.tongs(7);
        hotel.lay(0, 0, SOFT, 10);
        hotel.lay(1, 3, SOFT, 1);
        int[][] due = {{3, 0, 0, 1}, {2, 0, 0, 0}, {1, 0, 0, 0}, {0, 0, 0, 0}, {0, 0, 0, 0}};
        int[] busy = {2, 1, 1, 0, 0};
        for (int i = 0; i < due.length; i++) {
            for (int j = 0; j < 4; j++) {
                int tongs = j;
                CHECKS.due("after " + i + " hours, tongs " + j, due[i][j], () -> hotel.tongsOf(tongs, 1));
            }
            CHECKS.due("busy after " + i + " hours", busy[i], () -> hotel.account(4));
            hotel.pass(1);
        }
    }

    /** Then the hour becomes 1 more. */
    private static void hourBecomesOneMore() {
        SugarTowers hotel = new SugarTowers();
        for (int i = 1; i <= 25; i++) {
            hotel.pass(1);
            CHECKS.due("hour", i, () -> hotel.account(0));
        }
        hotel.pass(72);
        CHECKS.due("72 more", 97, () -> hotel.account(0));
    }

    /** Fourth, the banquets of the hour that is now are held, and wait no more. */
    private static void heldInItsHour() {
        SugarTowers hotel = Hotels.stocked(1);
        Hotels.lay(hotel, 0, SOFT, 1);
        hotel.banquet(3, 1, 50);
        hotel.banquet(4, 1, 60);
        hotel.show(0, 0);
        hotel.pass(1);
        CHECKS.due("both wait in the hour before", 2, () -> hotel.account(5));
        CHECKS.due("no coins yet", 0, () -> hotel.account(1));
        hotel.pass(1);
        CHECKS.due("held in its hour", 1, () -> hotel.account(6));
        CHECKS.due("coins", 50, () -> hotel.account(1));
        CHECKS.due("the next one waits", 1, () -> hotel.account(5));
        CHECKS.dueThrow("it waits no more", NoSuchElementException.class, () -> hotel.banquetOf(0, 0));
        hotel.pass(1);
        CHECKS.due("not held again", 1, () -> hotel.account(6));
        CHECKS.due("the next one is spoilt", 1, () -> hotel.account(7));
        CHECKS.dueThrow("and waits no more", NoSuchElementException.class, () -> hotel.banquetOf(1, 0));
    }

    /** Several hours that go by at once are as hours that go by one by one. */
    private static void severalHoursGoByOneByOne() {
        SugarTowers[] hotels = {Hotels.stocked(2), Hotels.stocked(2)};
        for (SugarTowers hotel : hotels) {
            Hotels.layOnes(hotel, 0, SOFT, HARD, HARD, HARD);
            Hotels.layOnes(hotel, 1, HARD, HARD);
            hotel.lay(1, 0, HARD, 1);
            for (int hourOfDay = 8; hourOfDay < 13; hourOfDay++) {
                hotel.humidity(hourOfDay, 95);
            }
            hotel.banquet(10, 3, 50);
            hotel.show(0, 1);
            hotel.banquet(20, 4, 60);
            hotel.show(1, 0);
            hotel.banquet(20, 1, 70);
        }
        hotels[0].pass(30);
        for (int i = 0; i < 30; i++) {
            hotels[1].pass(1);
        }
        CHECKS.due("all is the same", State.ofChanges(hotels[1]), () -> State.ofChanges(hotels[0]));
        CHECKS.due("one was held", 1, () -> hotels[0].account(6));
        CHECKS.due("two were spoilt", 2, () -> hotels[0].account(7));
        CHECKS.due("one broke", 4, () -> hotels[0].towerOf(0, 4));
    }

    /** If its tower has as many courses as it wants, or more, the hotel gets its coins, and all courses are eaten. */
    private static void asManyCoursesOrMore() {
        for (int i = 1; i <= 4; i++) {
            int wanted = i;
            SugarTowers hotel = Hotels.stocked(1);
            Hotels.layOnes(hotel, 0, HARD, HARD, HARD);
            hotel.banquet(4, wanted, 200);
            hotel.show(0, 0);
            hotel.pass(1);
            boolean isHeld = wanted <= 3;
            CHECKS.due("held, wants " + i, isHeld ? 1 : 0, () -> hotel.account(6));
            CHECKS.due("spoilt, wants " + i, isHeld ? 0 : 1, () -> hotel.account(7));
            CHECKS.due("coins, wants " + i, isHeld ? 200 : 0, () -> hotel.account(1));
            CHECKS.due("coins of banquets, wants " + i, isHeld ? 200 : 0, () -> hotel.account(14));
            CHECKS.due("courses left, wants " + i, isHeld ? 0 : 3, () -> hotel.towerOf(0, 0));
            CHECKS.due("eaten, wants " + i, isHeld ? 3 : 0, () -> hotel.account(12));
            CHECKS.due("waits no more, wants " + i, 0, () -> hotel.account(5));
        }
    }

    /** Otherwise the banquet is spoilt: with too few courses, with a tower without courses, and without a tower. */
    private static void spoiltOtherwise() {
        SugarTowers hotel = Hotels.stocked(2);
        Hotels.layOnes(hotel, 0, HARD);
        Hotels.dampen(hotel, 8);
        for (int i = 0; i < 3; i++) {
            hotel.banquet(5, 2 - i / 2, 90);
        }
        hotel.show(0, 0);
        hotel.show(1, 1);
        hotel.pass(2);
        CHECKS.due("all three", 3, () -> hotel.account(7));
        CHECKS.due("none held", 0, () -> hotel.account(6));
        CHECKS.due("none waits", 0, () -> hotel.account(5));
        CHECKS.due("no coins", 0, () -> hotel.account(1) + hotel.account(14));
        CHECKS.due("nothing eaten", 0, () -> hotel.account(12));
        CHECKS.due("the course stays", 1, () -> hotel.towerOf(0, 0));
        CHECKS.due("the dampness stays", 8, () -> hotel.towerOf(0, 2));
    }

    /** They are held by their numbers. */
    private static void heldByNumbers() {
        for (int i = 0; i < 2; i++) {
            SugarTowers hotel = Hotels.stocked(1);
            Hotels.layOnes(hotel, 0, HARD, HARD);
            hotel.banquet(3, 1 + i, 10);
            hotel.banquet(3, 2 - i, 20);
            hotel.show(1, 0);
            hotel.show(0, 0);
            hotel.pass(1);
            CHECKS.due("the lower one gets the tower", 10, () -> hotel.account(14));
            CHECKS.due("the higher one is spoilt", 1, () -> hotel.account(7));
        }
        SugarTowers hotel = Hotels.stocked(2);
        Hotels.layOnes(hotel, 0, HARD, HARD);
        Hotels.layOnes(hotel, 1, HARD);
        int[] towers = {0, 1, 1, 0};
        for (int i = 0; i < 4; i++) {
            hotel.banquet(4, i == 0 ? 3 : 1, 1 << i);
            hotel.show(i, towers[i]);
        }
        hotel.pass(1);
        CHECKS.due("1 and 3 are held, 0 and 2 are not", 2 + 8, () -> hotel.account(14));
    }

    /** All banquets of the hour are held, and wait no more, as many as can wait. */
    private static void sixOfOneHour() {
        SugarTowers hotel = Hotels.stocked(6);
        for (int i = 0; i < 6; i++) {
            Hotels.layOnes(hotel, i, SOFT);
            hotel.banquet(7, 1, 1 << i);
            hotel.show(i, i);
        }
        hotel.pass(1);
        CHECKS.due("all are held", 6, () -> hotel.account(6));
        CHECKS.due("the coins of all", 63, () -> hotel.account(14));
        CHECKS.due("all is eaten", 6, () -> hotel.account(12));
        CHECKS.due("none waits", 0, () -> hotel.account(5));
        CHECKS.dueThrow("none is next", NoSuchElementException.class, hotel::next);
        for (int i = 0; i < 6; i++) {
            hotel.banquet(8, 1, 1);
        }
        hotel.pass(1);
        CHECKS.due("all are spoilt", 6, () -> hotel.account(7));
        CHECKS.due("none waits again", 0, () -> hotel.account(5));
    }

    /** What breaks in an hour is not there for the banquets of the hour that is now then. */
    private static void breaksBeforeABanquet() {
        SugarTowers hotel = Hotels.stocked(1);
        Hotels.layOnes(hotel, 0, HARD, SOFT, HARD, HARD, HARD, HARD);
        Hotels.dampen(hotel, 9);
        int hour = hotel.account(0);
        hotel.banquet(hour + 1, 2, 30);
        hotel.banquet(hour + 1, 1, 5);
        hotel.show(0, 0);
        hotel.show(1, 0);
        CHECKS.due("five break", 5, () -> Hotels.passAt(hotel, 60));
        CHECKS.due("the one that wants two is spoilt", 1, () -> hotel.account(7));
        CHECKS.due("the other one is held", 5, () -> hotel.account(14));
        CHECKS.due("the rest is eaten", 1, () -> hotel.account(12));
    }

    /** Its dampness is 0 then, whatever the humidity of the hour was; that of other towers is not. */
    private static void dampBeforeABanquet() {
        SugarTowers hotel = Hotels.stocked(2);
        Hotels.layOnes(hotel, 0, HARD);
        Hotels.dampen(hotel, 7);
        int hour = hotel.account(0);
        hotel.banquet(hour + 1, 1, 30);
        hotel.show(0, 0);
        Hotels.passAt(hotel, 99);
        CHECKS.due("0", 0, () -> hotel.towerOf(0, 2));
        CHECKS.due("7 and 4", 11, () -> hotel.towerOf(1, 2));
        Hotels.passAt(hotel, 99);
        CHECKS.due("damp again an hour later", 4, () -> hotel.towerOf(0, 2));
        Hotels.layOnes(hotel, 1, HARD);
        Hotels.dampen(hotel, 99);
        CHECKS.due("as damp as can be", 99, () -> hotel.towerOf(1, 2));
        hotel.show(hotel.banquet(hotel.account(0) + 1, 1, 30), 1);
        Hotels.passAt(hotel, 99);
        CHECKS.due("0 from 99", 0, () -> hotel.towerOf(1, 2));
        CHECKS.due("99 stays", 99, () -> hotel.towerOf(0, 2));
    }
}
