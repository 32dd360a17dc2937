import java.util.NoSuchElementException;

/** 'Terms': hours, cubes, towers, bearing and tongs; each sentence with its boundary cases. */
public final class TermsOfTowersTest {
    private static final Checks CHECKS = new Checks();
    private static final int SOFT = 0;
    private static final int FIRM = 1;
    private static final int HARD = 2;

    public static void main(String[] args) {
        divisionsAreRoundedDown();
        hoursFrom0();
        hourOfTheDay();
        banquetsKnowNoDay();
        humidityAtFirst();
        humidityFrom0To99();
        grades();
        stockFrom0();
        stockTo300();
        prices();
        sixTowers();
        tenCourses();
        dampnessFrom0();
        dampnessTo99();
        cubesOfACourse();
        notMoreThanTheCourseBelow();
        bearing();
        sumOfWhatItsCubesBear();
        allCoursesAbove();
        tooWeak();
        fourTongs();
        reachFrom1To10();
        tongsReach();
        tongsAreBusy();
        CHECKS.end();
    }

    /** All divisions of whole numbers are rounded down. */
    private static void divisionsAreRoundedDown() {
        SugarTowers hotel = Hotels.stocked(2);
        hotel.lay(0, 0, SOFT, 19);
        CHECKS.due("a fifth of 19 is 3", 4, () -> hotel.tongsOf(0, 1));
        Hotels.passAt(hotel, 69);
        CHECKS.due("a tenth of 19 is 1", 1, () -> hotel.towerOf(0, 2));
        Hotels.dampen(hotel, 18);
        CHECKS.due("a tenth of 19 is 1, too", 19 * 3, () -> hotel.courseOf(0, 0, 3));
    }

    /** Hours are numbered from 0. */
    private static void hoursFrom0() {
        CHECKS.due("hour 0", 0, () -> new SugarTowers().account(0));
    }

    /** The hour of the day is the hour modulo 24. */
    private static void hourOfTheDay() {
        SugarTowers hotel = new SugarTowers();
        hotel.tower();
        hotel.humidity(0, 90);
        hotel.humidity(23, 60);
        hotel.pass(23);
        CHECKS.due("humid in the hour 0 alone", 4, () -> hotel.towerOf(0, 2));
        CHECKS.due("hour 23", 60, () -> hotel.humidityIn(0));
        CHECKS.due("hour 24 is ahead", 90, () -> hotel.humidityIn(1));
        hotel.pass(1);
        CHECKS.due("hour 23 went by", 5, () -> hotel.towerOf(0, 2));
        CHECKS.due("hour 24, not 0", 24, () -> hotel.account(0));
        CHECKS.due("hour 24 is an hour 0 of the day", 90, () -> hotel.humidityIn(0));
        hotel.pass(1);
        CHECKS.due("hour 24 went by", 9, () -> hotel.towerOf(0, 2));
        hotel.pass(23);
        CHECKS.due("hour 47 went by", 10, () -> hotel.towerOf(0, 2));
        CHECKS.due("hour 48 is an hour 0 of the day, too", 90, () -> hotel.humidityIn(0));
    }

    /** A banquet's hour is an hour, not one of the day. */
    private static void banquetsKnowNoDay() {
        SugarTowers hotel = new SugarTowers();
        hotel.pass(5);
        hotel.banquet(30, 1, 1);
        hotel.pass(1);
        CHECKS.due("not in the hour 6", 1, () -> hotel.account(5));
        hotel.pass(23);
        CHECKS.due("not in the hour 29", 1, () -> hotel.account(5));
        hotel.pass(1);
        CHECKS.due("in the hour 30", 0, () -> hotel.account(5));
    }

    /** Each hour of the day has a humidity, 45 at first. */
    private static void humidityAtFirst() {
        SugarTowers hotel = new SugarTowers();
        for (int i = 0; i < 24; i++) {
            int hourOfDay = i;
            CHECKS.due("at first, hour " + i, 45, () -> hotel.humidityIn(hourOfDay));
        }
        for (int i = 0; i < 24; i++) {
            int hourOfDay = i;
            CHECKS.due("each has its own, hour " + i, 45, () -> hotel.humidity(hourOfDay, hourOfDay + 50));
        }
        for (int i = 0; i < 24; i++) {
            int hourOfDay = i;
            CHECKS.due("each keeps its own, hour " + i, hourOfDay + 50, () -> hotel.humidityIn(hourOfDay));
        }
    }

    /** A humidity is from 0 to 99 percent. */
    private static void humidityFrom0To99() {
        SugarTowers hotel = new SugarTowers();
        CHECKS.due("0", 45, () -> hotel.humidity(7, 0));
        CHECKS.due("99", 0, () -> hotel.humidity(7, 99));
        CHECKS.dueThrow("-1", IllegalArgumentException.class, () -> hotel.humidity(7, -1));
        CHECKS.dueThrow("100", IllegalArgumentException.class, () -> hotel.humidity(7, 100));
        CHECKS.due("99 stays", 99, () -> hotel.humidityIn(7));
    }

    /** A cube is soft, 0, firm, 1, or hard, 2. */
    private static void grades() {
        SugarTowers hotel = Hotels.rich(0);
        for (int i = SOFT; i <= HARD; i++) {
            int grade = i;
            CHECKS.due("bought, grade " + i, 2, () -> hotel.buy(grade, 2));
            CHECKS.due("in the stock, grade " + i, 2, () -> hotel.stock(grade));
            CHECKS.due("could be laid, grade " + i, 0, () -> hotel.why(0, 0, grade, 1));
            CHECKS.due("in a text, grade " + i, 1, () -> Checks.read(hotel, "b" + grade + "+1"));
        }
        for (int i : new int[] {-1, 3}) {
            int grade = i;
            CHECKS.dueThrow("not bought, " + i, IllegalArgumentException.class, () -> hotel.buy(grade, 1));
            CHECKS.dueThrow("not in the stock, " + i, IllegalArgumentException.class, () -> hotel.stock(grade));
            CHECKS.dueThrow("not laid, " + i, IllegalArgumentException.class, () -> hotel.lay(0, 0, grade, 1));
            CHECKS.dueThrow("could not be laid, " + i, IllegalArgumentException.class,
                    () -> hotel.why(0, 0, grade, 1));
        }
        CHECKS.due("not in a text, 3", "throws IllegalArgumentException", () -> Checks.read(hotel, "b3+1"));
    }

    /** The stock has from 0 cubes of each grade, at first 0. */
    private static void stockFrom0() {
        for (int i = SOFT; i <= HARD; i++) {
            int grade = i;
            SugarTowers hotel = Hotels.rich(0);
            CHECKS.due("at first, grade " + i, 0, () -> hotel.stock(grade));
            CHECKS.dueThrow("none to lay, grade " + i, UnsupportedOperationException.class,
                    () -> hotel.lay(0, 0, grade, 1));
            hotel.buy(grade, 3);
            CHECKS.due("all of them, grade " + i, 0, () -> hotel.lay(0, 0, grade, 3));
            CHECKS.due("none is left, grade " + i, 0, () -> hotel.stock(grade));
        }
    }

    /** The stock has to 300 cubes of each grade. */
    private static void stockTo300() {
        SugarTowers hotel = Hotels.rich(9);
        for (int i = SOFT; i <= HARD; i++) {
            int grade = i;
            Hotels.buy(hotel, grade, 299);
            CHECKS.dueThrow("301, grade " + i, UnsupportedOperationException.class, () -> hotel.buy(grade, 2));
            CHECKS.due("reason, grade " + i, 3, () -> hotel.refusal(false));
            CHECKS.due("has 299, grade " + i, 299, () -> hotel.refusal(true));
            CHECKS.due("300, grade " + i, 300, () -> hotel.buy(grade, 1));
            CHECKS.dueThrow("301 again, grade " + i, UnsupportedOperationException.class, () -> hotel.buy(grade, 1));
            CHECKS.due("has 300, grade " + i, 300, () -> hotel.refusal(true));
        }
        CHECKS.due("300 of each", 900, () -> hotel.account(9));
    }

    /** A soft cube costs 1 coin, a firm one 2 and a hard one 3. */
    private static void prices() {
        for (int i = SOFT; i <= HARD; i++) {
            int grade = i;
            SugarTowers hotel = new SugarTowers();
            hotel.buy(grade, 33);
            CHECKS.due("33 cost, grade " + i, 100 - 33 * (grade + 1), () -> hotel.account(1));
        }
        SugarTowers soft = new SugarTowers();
        soft.buy(SOFT, 99);
        CHECKS.due("for the last coin", 100, () -> soft.buy(SOFT, 1));
        int[] missing = {1, 2, 3};
        for (int i = SOFT; i <= HARD; i++) {
            int grade = i;
            CHECKS.dueThrow("without a coin, grade " + i, UnsupportedOperationException.class,
                    () -> soft.buy(grade, 1));
            CHECKS.due("coins that are missing, grade " + i, missing[i], () -> soft.refusal(true));
        }
    }

    /** At most 6 towers are kept, numbered from 0. */
    private static void sixTowers() {
        SugarTowers hotel = new SugarTowers();
        for (int i = 0; i < 6; i++) {
            int tower = i;
            CHECKS.dueThrow("not yet", IndexOutOfBoundsException.class, () -> hotel.spare(tower));
            CHECKS.due("numbers", tower, hotel::tower);
            CHECKS.due("kept", 20, () -> hotel.spare(tower));
        }
        CHECKS.dueThrow("the seventh", UnsupportedOperationException.class, hotel::tower);
        CHECKS.dueThrow("not there", IndexOutOfBoundsException.class, () -> hotel.spare(6));
        CHECKS.due("six are kept", 6, () -> hotel.account(2));
    }

    /** A tower has at most 10 courses, counted from 0, the lowest one. */
    private static void tenCourses() {
        SugarTowers hotel = Hotels.stocked(1);
        for (int i = 0; i < 10; i++) {
            int course = i;
            CHECKS.dueThrow("not yet", IndexOutOfBoundsException.class, () -> hotel.courseOf(0, course, 0));
            CHECKS.due("counted from the lowest", course, () -> hotel.lay(0, 0, course == 0 ? HARD : FIRM, 1));
            CHECKS.due("it is there", 1, () -> hotel.courseOf(0, course, 1));
            hotel.pass(1);
        }
        CHECKS.due("course 0 is the lowest", 9, () -> hotel.courseOf(0, 0, 2));
        CHECKS.due("course 9 is the uppermost", 0, () -> hotel.courseOf(0, 9, 2));
        CHECKS.dueThrow("the eleventh", UnsupportedOperationException.class, () -> hotel.lay(0, 0, SOFT, 1));
        CHECKS.dueThrow("not there", IndexOutOfBoundsException.class, () -> hotel.courseOf(0, 10, 0));
        CHECKS.due("ten are there", 10, () -> hotel.towerOf(0, 0));
        hotel.take(0);
        CHECKS.due("the tenth again", 9, () -> hotel.lay(0, 0, SOFT, 1));
    }

    /** A dampness is from 0, at first 0. */
    private static void dampnessFrom0() {
        SugarTowers hotel = new SugarTowers();
        hotel.tower();
        CHECKS.due("at first", 0, () -> hotel.towerOf(0, 2));
        Hotels.passAt(hotel, 0);
        CHECKS.due("not less than 0", 0, () -> hotel.towerOf(0, 2));
        Hotels.dampen(hotel, 5);
        hotel.tower();
        CHECKS.due("at first, of a later one", 0, () -> hotel.towerOf(1, 2));
        CHECKS.due("of the earlier one", 5, () -> hotel.towerOf(0, 2));
    }

    /** A dampness is to 99. */
    private static void dampnessTo99() {
        int[] before = {94, 95, 96, 97, 98, 99};
        int[] after = {98, 99, 99, 99, 99, 99};
        for (int i = 0; i < before.length; i++) {
            SugarTowers hotel = new SugarTowers();
            hotel.tower();
            Hotels.dampen(hotel, before[i]);
            CHECKS.due("before", before[i], () -> hotel.towerOf(0, 2));
            Hotels.passAt(hotel, 99);
            CHECKS.due("4 more than " + before[i], after[i], () -> hotel.towerOf(0, 2));
        }
    }

    /** A course has from 1 to 20 cubes. */
    private static void cubesOfACourse() {
        int[] right = {1, 20};
        for (int cubes : right) {
            SugarTowers hotel = Hotels.stocked(1);
            CHECKS.due("could be laid: " + cubes, 0, () -> hotel.why(0, 0, SOFT, cubes));
            CHECKS.due("laid: " + cubes, 0, () -> hotel.lay(0, 0, SOFT, cubes));
            CHECKS.due("has them: " + cubes, cubes, () -> hotel.courseOf(0, 0, 1));
        }
        int[] wrong = {-1, 0, 21};
        for (int cubes : wrong) {
            SugarTowers hotel = Hotels.stocked(1);
            CHECKS.dueThrow("asked: " + cubes, IllegalArgumentException.class, () -> hotel.why(0, 0, SOFT, cubes));
            CHECKS.dueThrow("laid: " + cubes, IllegalArgumentException.class, () -> hotel.lay(0, 0, SOFT, cubes));
        }
    }

    /** A course has not more cubes than the course below it. */
    private static void notMoreThanTheCourseBelow() {
        SugarTowers hotel = Hotels.stocked(1);
        Hotels.lay(hotel, 0, SOFT, 10);
        CHECKS.dueThrow("one more", UnsupportedOperationException.class, () -> hotel.lay(0, 0, SOFT, 11));
        CHECKS.due("reason", 7, () -> hotel.refusal(false));
        CHECKS.due("as many", 1, () -> hotel.lay(0, 0, SOFT, 10));
        hotel.pass(3);
        CHECKS.due("fewer", 2, () -> hotel.lay(0, 0, SOFT, 2));
        hotel.pass(1);
        CHECKS.due("of the one below, not of the lowest", 7, () -> hotel.why(0, 0, SOFT, 3));
        CHECKS.due("as many as the one below", 0, () -> hotel.why(0, 0, SOFT, 2));
    }

    /** A soft cube bears 4, a firm one 8, a hard one 15, less a tenth of the dampness, but at least 0. */
    private static void bearing() {
        int[][] due = {{0, 4, 8, 15}, {9, 4, 8, 15}, {10, 3, 7, 14}, {39, 1, 5, 12}, {40, 0, 4, 11}, {49, 0, 4, 11},
            {50, 0, 3, 10}, {79, 0, 1, 8}, {80, 0, 0, 7}, {89, 0, 0, 7}, {90, 0, 0, 6}, {99, 0, 0, 6}};
        SugarTowers hotel = Hotels.stocked(3);
        for (int grade = SOFT; grade <= HARD; grade++) {
            Hotels.lay(hotel, grade, grade, 1);
        }
        for (int[] row : due) {
            Hotels.dampen(hotel, row[0] - hotel.towerOf(0, 2));
            CHECKS.due("dampness", row[0], () -> hotel.towerOf(0, 2));
            for (int i = SOFT; i <= HARD; i++) {
                int grade = i;
                CHECKS.due("at " + row[0] + ", grade " + i, row[i + 1], () -> hotel.courseOf(grade, 0, 3));
                CHECKS.due("by a second way at " + row[0] + ", grade " + i, row[i + 1],
                        () -> hotel.bearsAgain(grade, 0));
            }
        }
    }

    /** A course bears the sum of what its cubes bear. */
    private static void sumOfWhatItsCubesBear() {
        SugarTowers hotel = Hotels.rich(2);
        hotel.buy(HARD, 21);
        hotel.tower();
        Hotels.lay(hotel, 0, HARD, 20);
        Hotels.lay(hotel, 1, HARD, 1);
        CHECKS.due("of twenty", 300, () -> hotel.courseOf(0, 0, 3));
        CHECKS.due("of one", 15, () -> hotel.courseOf(1, 0, 3));
    }

    /** What is above a course are the cubes of all courses above it. */
    private static void allCoursesAbove() {
        SugarTowers hotel = Hotels.stocked(1);
        int[] cubes = {5, 4, 3, 1};
        for (int many : cubes) {
            Hotels.lay(hotel, 0, SOFT, many);
        }
        int[] above = {8, 4, 1, 0};
        for (int i = 0; i < above.length; i++) {
            int course = i;
            CHECKS.due("above course " + i, above[i], () -> hotel.courseOf(0, course, 2));
        }
    }

    /** A course is too weak if it bears less than what is above it. */
    private static void tooWeak() {
        SugarTowers hotel = Hotels.stocked(1);
        Hotels.layOnes(hotel, 0, SOFT, HARD, HARD, HARD);
        CHECKS.due("3 above, it bears 4", 0, () -> hotel.why(0, 0, HARD, 1));
        Hotels.layOnes(hotel, 0, HARD);
        CHECKS.due("4 above, it bears 4", true, () -> hotel.stands(0, 0));
        CHECKS.due("5 above, it bears 4", 8, () -> hotel.why(0, 0, HARD, 1));
        CHECKS.due("4 above, it bears 4, and no hour breaks it", 0, () -> hotel.pass(72));
        CHECKS.due("4 above, it would bear 3", false, () -> hotel.stands(0, 10));
    }

    /** At most 4 tongs are kept, numbered from 0, busy for some hours, at first 0. */
    private static void fourTongs() {
        SugarTowers hotel = new SugarTowers();
        for (int i = 0; i < 4; i++) {
            int tongs = i;
            CHECKS.dueThrow("not yet", IndexOutOfBoundsException.class, () -> hotel.tongsOf(tongs, 0));
            CHECKS.due("numbers", tongs, () -> hotel.tongs(tongs + 1));
            CHECKS.due("kept", tongs + 1, () -> hotel.tongsOf(tongs, 0));
            CHECKS.due("not busy at first", 0, () -> hotel.tongsOf(tongs, 1));
            CHECKS.due("nothing laid at first", 0, () -> hotel.tongsOf(tongs, 2));
        }
        CHECKS.dueThrow("the fifth", UnsupportedOperationException.class, () -> hotel.tongs(1));
        CHECKS.dueThrow("not there", IndexOutOfBoundsException.class, () -> hotel.tongsOf(4, 0));
        CHECKS.due("four are kept", 4, () -> hotel.account(3));
    }

    /** Tongs have a reach from 1 to 10. */
    private static void reachFrom1To10() {
        SugarTowers hotel = new SugarTowers();
        CHECKS.dueThrow("0", IllegalArgumentException.class, () -> hotel.tongs(0));
        CHECKS.dueThrow("11", IllegalArgumentException.class, () -> hotel.tongs(11));
        CHECKS.due("1", 0, () -> hotel.tongs(1));
        CHECKS.due("10", 1, () -> hotel.tongs(10));
        CHECKS.due("1 is kept", 1, () -> hotel.tongsOf(0, 0));
        CHECKS.due("10 is kept", 10, () -> hotel.tongsOf(1, 0));
    }

    /** Tongs reach the courses whose number is less than their reach. */
    private static void tongsReach() {
        for (int i = 1; i <= 10; i++) {
            int reach = i;
            SugarTowers hotel = Hotels.stocked(1);
            hotel.tongs(reach);
            for (int course = 0; course < reach; course++) {
                CHECKS.due("they reach " + course, 0, () -> hotel.why(0, 1, FIRM, 1));
                Hotels.layOnes(hotel, 0, course == 0 ? HARD : FIRM);
            }
            CHECKS.due("not as high as " + reach, reach == 10 ? 1 : 5, () -> hotel.why(0, 1, FIRM, 1));
        }
        SugarTowers asked = new SugarTowers();
        asked.tongs(9);
        CHECKS.due("reach 9, course 8", 0, () -> asked.tongsFor(8));
        CHECKS.dueThrow("reach 9, course 9", NoSuchElementException.class, () -> asked.tongsFor(9));
        asked.tongs(10);
        CHECKS.due("reach 10, course 9", 1, () -> asked.tongsFor(9));
    }

    /** When they lay a course, they are busy for a fifth of its cubes and 1 hour more. */
    private static void tongsAreBusy() {
        int[] hours = {1, 1, 1, 1, 2, 2, 2, 2, 2, 3, 3, 3, 3, 3, 4, 4, 4, 4, 4, 5};
        for (int i = 0; i < hours.length; i++) {
            int cubes = i + 1;
            int due = hours[i];
            SugarTowers hotel = Hotels.stocked(2);
            hotel.lay(0, 0, SOFT, cubes);
            CHECKS.due("cubes: " + cubes, due, () -> hotel.tongsOf(0, 1));
            if (due > 1) {
                hotel.pass(due - 1);
            }
            CHECKS.due("the last hour, cubes: " + cubes, 4, () -> hotel.why(1, 0, SOFT, 1));
            hotel.pass(1);
            CHECKS.due("after it, cubes: " + cubes, 0, () -> hotel.why(1, 0, SOFT, 1));
        }
    }
}
