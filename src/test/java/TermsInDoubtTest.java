/** 'Terms', the paragraphs 'In doubt, too'; each sentence with its boundary cases. */
public final class TermsInDoubtTest {
    private static final Checks CHECKS = new Checks();
    private static final int SOFT = 0;
    private static final int FIRM = 1;
    private static final int HARD = 2;

    public static void main(String[] args) {
        eachCubeBearsLess();
        whateverTheirGrade();
        hourThatGoesBy();
        theWeakOneBreaksToo();
        brokenAsACourseIsTakenOff();
        tenCoursesSpareAsIfThereWasRoom();
        firstHourIsOne();
        noCoursesAreMissing();
        refusedTextHasNoErrorPosition();
        CHECKS.end();
    }

    /** Each cube bears less by dampness. */
    private static void eachCubeBearsLess() {
        SugarTowers hotel = Hotels.stocked(1);
        Hotels.lay(hotel, 0, SOFT, 20);
        CHECKS.due("dry", 80, () -> hotel.courseOf(0, 0, 3));
        Hotels.dampen(hotel, 10);
        CHECKS.due("20 times 3, not 79", 60, () -> hotel.courseOf(0, 0, 3));
        CHECKS.due("by a second way", 60, () -> hotel.bearsAgain(0, 0));
        Hotels.dampen(hotel, 9);
        CHECKS.due("a tenth of 19, not 38 less", 60, () -> hotel.courseOf(0, 0, 3));
    }

    /** What is above a course are so many cubes, whatever their grade. */
    private static void whateverTheirGrade() {
        for (int i = SOFT; i <= HARD; i++) {
            int grade = i;
            SugarTowers hotel = Hotels.stocked(1);
            Hotels.lay(hotel, 0, SOFT, 7);
            Hotels.lay(hotel, 0, grade, 7);
            CHECKS.due("7 of grade " + i, 7, () -> hotel.courseOf(0, 0, 2));
            CHECKS.due("borne, 28 less 7, grade " + i, 20, () -> hotel.spare(0));
            CHECKS.due("it stands, grade " + i, true, () -> hotel.stands(0, 39 - 10));
        }
    }

    /** The hour of the day is that of the hour that goes by. */
    private static void hourThatGoesBy() {
        SugarTowers hotel = new SugarTowers();
        hotel.tower();
        hotel.humidity(0, 90);
        hotel.humidity(1, 60);
        hotel.humidity(2, 70);
        hotel.pass(1);
        CHECKS.due("of the hour 0, not of 1", 4, () -> hotel.towerOf(0, 2));
        hotel.pass(1);
        CHECKS.due("of the hour 1, not of 2", 5, () -> hotel.towerOf(0, 2));
        hotel.pass(22);
        CHECKS.due("of the hour 23, not of 0", 7, () -> hotel.towerOf(0, 2));
    }

    /** The course that is too weak breaks, too. */
    private static void theWeakOneBreaksToo() {
        SugarTowers hotel = Hotels.stocked(1);
        Hotels.lay(hotel, 0, HARD, 3);
        Hotels.lay(hotel, 0, SOFT, 2);
        Hotels.layOnes(hotel, 0, FIRM);
        Hotels.dampen(hotel, 36);
        CHECKS.due("the weak one and the one above", 2, () -> Hotels.passAt(hotel, 90));
        CHECKS.due("not the one below", 1, () -> hotel.towerOf(0, 0));
        CHECKS.due("its cubes, too", 3, () -> hotel.account(11));
        CHECKS.due("its course, too", 2, () -> hotel.towerOf(0, 4));
    }

    /** Cubes that break as a course is taken off are not a course that broke. */
    private static void brokenAsACourseIsTakenOff() {
        SugarTowers hotel = Hotels.rich(3);
        hotel.buy(SOFT, 20);
        Hotels.lay(hotel, 0, SOFT, 20);
        Hotels.buy(hotel, SOFT, 300);
        CHECKS.due("taken", 20, () -> hotel.take(0));
        CHECKS.due("no course broke", 0, () -> hotel.towerOf(0, 4));
        CHECKS.due("20 cubes broke", 20, () -> hotel.account(11));
        CHECKS.due("nor does one break later", 0, () -> hotel.pass(1));
    }

    /** A tower with 10 courses has as much to spare as if there was room. */
    private static void tenCoursesSpareAsIfThereWasRoom() {
        SugarTowers hotel = Hotels.stocked(1);
        Hotels.lay(hotel, 0, HARD, 3);
        Hotels.lay(hotel, 0, FIRM, 3);
        for (int i = 2; i < 10; i++) {
            Hotels.layOnes(hotel, 0, FIRM);
        }
        CHECKS.due("ten courses", 10, () -> hotel.towerOf(0, 0));
        CHECKS.due("course 2 bears 8 and has 7 above", 1, () -> hotel.spare(0));
        CHECKS.due("some to spare", 's', () -> hotel.sign(0));
        CHECKS.due("but no room", 1, () -> hotel.why(0, 0, FIRM, 1));
        SugarTowers wide = Hotels.rich(3);
        Hotels.buy(wide, HARD, 50);
        for (int i = 0; i < 10; i++) {
            Hotels.lay(wide, 0, HARD, 5);
        }
        CHECKS.due("course 0 bears 75 and has 45 above", 20, () -> wide.spare(0));
        Hotels.dampen(wide, 40);
        CHECKS.due("course 0 bears 55 and has 45 above", 10, () -> wide.spare(0));
    }

    /** The first hour that goes by is told as 1. */
    private static void firstHourIsOne() {
        SugarTowers hotel = Hotels.stocked(1);
        Hotels.layOnes(hotel, 0, SOFT, HARD, HARD, HARD, HARD);
        Hotels.dampen(hotel, 6);
        int hour = hotel.account(0);
        hotel.humidity((hour + 1) % 24, 90);
        CHECKS.due("the second hour is 2", 2, () -> hotel.breaksIn(0));
        hotel.humidity(hour % 24, 90);
        CHECKS.due("the first hour is 1", 1, () -> hotel.breaksIn(0));
        CHECKS.due("it breaks in one hour", 5, () -> hotel.pass(1));
    }

    /** No courses are missing where there are more than a banquet wants. */
    private static void noCoursesAreMissing() {
        SugarTowers hotel = Hotels.stocked(1);
        Hotels.layOnes(hotel, 0, HARD, HARD, HARD);
        for (int i = 0; i < 5; i++) {
            int number = i;
            int due = Math.max(0, i - 2);
            hotel.banquet(90, number + 1, 1);
            CHECKS.due("as it is shown, wants " + (i + 1), due, () -> hotel.show(number, 0));
            CHECKS.due("asked, wants " + (i + 1), due, () -> hotel.banquetOf(number, 4));
        }
    }

    /** A text without an error has no error position, also if it is refused. */
    private static void refusedTextHasNoErrorPosition() {
        SugarTowers hotel = Hotels.rich(0);
        Checks.read(hotel, "b0?");
        CHECKS.due("with an error", 2, hotel::errorPosition);
        CHECKS.due("refused", "throws UnsupportedOperationException", () -> Checks.read(hotel, "b0+1;t0"));
        CHECKS.due("no position if refused", -1, hotel::errorPosition);
        Checks.read(hotel, "b0?");
        CHECKS.due("another exception", "throws IllegalArgumentException", () -> Checks.read(hotel, "b0+1;t1"));
        CHECKS.due("no position by another exception", -1, hotel::errorPosition);
        Checks.read(hotel, "b0?");
        CHECKS.due("carried out", 1, () -> Checks.read(hotel, "b0+1"));
        CHECKS.due("no position if carried out", -1, hotel::errorPosition);
    }
}
