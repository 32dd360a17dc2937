/** 'Terms': texts and reasons; each sentence with its boundary cases. */
public final class TermsOfTextsTest {
    private static final Checks CHECKS = new Checks();
    private static final String ILLEGAL = "throws IllegalArgumentException";
    private static final String UNSUPPORTED = "throws UnsupportedOperationException";

    public static void main(String[] args) {
        sixtyCharacters();
        semicolonBetweenTwo();
        buysCubes();
        laysACourse();
        takesACourse();
        showsATower();
        letsHoursGoBy();
        numbersHaveOneOrTwoDigits();
        allElseIsOneDigit();
        firstCharacterThatCannotContinue();
        endsTooEarly();
        onlyTheseCharacters();
        carriedOutOneAfterTheOther();
        elseNothingOfIt();
        theFirstThatCannotBeDecides();
        fullHouse();
        tooFewCoins();
        stockTooFull();
        tongsBusy();
        tongsTooShort();
        tooFewCubes();
        widerThanBelow();
        tooWeak();
        towerWithoutCourses();
        hourNotLater();
        firstReasonOfSeveral();
        CHECKS.end();
    }

    /** Towers 0 and 1, tongs 0, and banquet 0, which wants a course in the hour 90. */
    private static SugarTowers hotel() {
        SugarTowers hotel = Hotels.rich(0);
        hotel.tower();
        hotel.banquet(90, 1, 1);
        return hotel;
    }

    private static void isCarriedOut(String text, int orders) {
        SugarTowers hotel = hotel();
        CHECKS.due("is carried out: " + text, orders, () -> Checks.read(hotel, text));
        CHECKS.due("no position: " + text, -1, hotel::errorPosition);
        CHECKS.due("a change: " + text, 5, () -> hotel.account(16));
    }

    private static void hasError(String text, int position) {
        SugarTowers hotel = hotel();
        CHECKS.due("has an error: " + text, ILLEGAL, () -> Checks.read(hotel, text));
        CHECKS.due("position: " + text, position, hotel::errorPosition);
        CHECKS.due("no change: " + text, 4, () -> hotel.account(16));
    }

    /** The input has at most 60 characters. */
    private static void sixtyCharacters() {
        String text = "b0+1;".repeat(11) + "b0+01";
        SugarTowers hotel = hotel();
        Checks.type(hotel, text);
        CHECKS.due("60 characters", 60, () -> hotel.account(15));
        CHECKS.dueThrow("a character more", IllegalStateException.class, () -> hotel.append('2'));
        CHECKS.due("60 characters still", 60, () -> hotel.account(15));
        CHECKS.due("the text is as it was", 12, hotel::read);
        CHECKS.due("all was bought", 12, () -> hotel.stock(0));
        CHECKS.due("there is room again", 1, () -> hotel.append('b'));
        isCarriedOut("h1;".repeat(19) + "h01", 20);
        hasError("h1;".repeat(20), 60);
        hasError("h1;".repeat(19) + "h1x", 59);
        hasError("x".repeat(60), 0);
    }

    /** A text consists of orders with a semicolon between two of them. */
    private static void semicolonBetweenTwo() {
        isCarriedOut("h1", 1);
        isCarriedOut("h1;h1", 2);
        isCarriedOut("b0+2;l0/0:0*1;h1;s0@0;t0;h1", 6);
        hasError("", 0);
        hasError(";", 0);
        hasError("h1;", 3);
        hasError(";h1", 0);
        hasError("h1;;h1", 3);
        hasError("h1,h1", 2);
        hasError("t0t1", 2);
        hasError("h12h1", 3);
        hasError("b0+1b0+1", 4);
    }

    /** "b", a grade, "+" and a number buys cubes. */
    private static void buysCubes() {
        isCarriedOut("b0+1", 1);
        SugarTowers hotel = hotel();
        CHECKS.due("bought", 1, () -> Checks.read(hotel, "b2+33"));
        CHECKS.due("of that grade", 33, () -> hotel.stock(2));
        CHECKS.due("for coins", 1, () -> hotel.account(1));
        SugarTowers large = Hotels.rich(1);
        CHECKS.due("99 bought", 1, () -> Checks.read(large, "b0+99"));
        CHECKS.due("99 in the stock", 99, () -> large.stock(0));
        hasError("b+1", 1);
        hasError("b0-1", 2);
        hasError("b01", 2);
        hasError("b0+x", 3);
        hasError("b0+1+", 4);
    }

    /** "l", a tower, "/" tongs, ":" a grade and "*" a number of cubes lays a course. */
    private static void laysACourse() {
        SugarTowers hotel = hotel();
        hotel.tongs(3);
        hotel.buy(2, 25);
        CHECKS.due("laid", 1, () -> Checks.read(hotel, "l1/1:2*20"));
        CHECKS.due("on that tower", 20, () -> hotel.courseOf(1, 0, 1));
        CHECKS.due("of that grade", 2, () -> hotel.courseOf(1, 0, 0));
        CHECKS.due("by those tongs", 20, () -> hotel.tongsOf(1, 2));
        hasError("l/0:0*1", 1);
        hasError("l0:0*1", 2);
        hasError("l0/:0*1", 3);
        hasError("l0/0*0:1", 4);
        hasError("l0/0:*1", 5);
        hasError("l0/0:0:1", 6);
        hasError("l0/0:0*;", 7);
        hasError("l0/0:0*1*", 8);
    }

    /** "t" and a tower takes its uppermost course off. */
    private static void takesACourse() {
        SugarTowers hotel = hotel();
        hotel.buy(0, 5);
        hotel.lay(1, 0, 0, 5);
        CHECKS.due("taken", 1, () -> Checks.read(hotel, "t1"));
        CHECKS.due("off that tower", 0, () -> hotel.towerOf(1, 0));
        CHECKS.due("into the stock", 5, () -> hotel.stock(0));
        hasError("tt", 1);
        hasError("t1+", 2);
    }

    /** "s", a banquet, "@" and a tower shows it there. */
    private static void showsATower() {
        SugarTowers hotel = hotel();
        hotel.banquet(90, 1, 1);
        CHECKS.due("shown", 1, () -> Checks.read(hotel, "s1@0"));
        CHECKS.due("at that banquet", 0, () -> hotel.banquetOf(1, 3));
        CHECKS.due("at that one alone", -1, () -> hotel.banquetOf(0, 3));
        hasError("s@0", 1);
        hasError("s0+0", 2);
        hasError("s0@@", 3);
        hasError("s0@0@", 4);
    }

    /** "h" and a number lets hours go by. */
    private static void letsHoursGoBy() {
        SugarTowers hotel = hotel();
        CHECKS.due("hours", 1, () -> Checks.read(hotel, "h72"));
        CHECKS.due("all of them", 72, () -> hotel.account(0));
        hasError("h", 1);
        hasError("hh", 1);
        hasError("h-1", 1);
    }

    /** Numbers and banquets have one or two digits. */
    private static void numbersHaveOneOrTwoDigits() {
        String[] right = {"b0+7", "b0+07", "b0+70", "b0+1;l0/0:0*1", "b0+1;l0/0:0*01", "b0+10;l0/0:0*10", "s0@0",
            "s00@0", "h9", "h09", "h19"};
        for (String text : right) {
            isCarriedOut(text, text.indexOf(';') < 0 ? 1 : 2);
        }
        SugarTowers hotel = hotel();
        for (int i = 1; i <= 10; i++) {
            hotel.cancel(hotel.banquet(90, 1, 1));
        }
        hotel.banquet(90, 1, 1);
        CHECKS.due("a banquet of two digits", 1, () -> Checks.read(hotel, "s11@1"));
        CHECKS.due("its tower", 1, () -> hotel.banquetOf(11, 3));
        hasError("b0+", 3);
        hasError("b0+100", 5);
        hasError("b0+001", 5);
        hasError("l0/0:0*", 7);
        hasError("l0/0:0*001", 9);
        hasError("s000@0", 3);
        hasError("h001", 3);
        hasError("h100", 3);
    }

    /** All else is one digit. */
    private static void allElseIsOneDigit() {
        hasError("b00+1", 2);
        hasError("l00/0:0*1", 2);
        hasError("l0/00:0*1", 4);
        hasError("l0/0:00*1", 6);
        hasError("t00", 2);
        hasError("s0@00", 4);
    }

    /** The error position is the offset of the first character that cannot continue such a text. */
    private static void firstCharacterThatCannotContinue() {
        String[] texts = {"b0+1", "l0/0:0*1", "t0", "s0@0", "h1"};
        for (String text : texts) {
            for (int i = 0; i < text.length(); i++) {
                hasError(text.substring(0, i) + "?" + text.substring(i), i);
                hasError("h1;" + text.substring(0, i) + "?" + text.substring(i), i + 3);
            }
            hasError(text + "?", text.length());
            hasError(text + "?;?", text.length());
        }
    }

    /** Or the length of the text if it ends too early. */
    private static void endsTooEarly() {
        String[] texts = {"b0+1", "l0/0:0*1", "t0", "s0@0", "h1"};
        for (String text : texts) {
            for (int i = 0; i < text.length(); i++) {
                hasError(text.substring(0, i), i);
                hasError("h24;" + text.substring(0, i), i + 4);
            }
        }
        hasError("h1;", 3);
    }

    /** No other characters: neither capitals nor spaces, nor digits of other scripts, nor the neighbours of digits. */
    private static void onlyTheseCharacters() {
        hasError("B0+1", 0);
        hasError("H1", 0);
        hasError(" h1", 0);
        hasError("h 1", 1);
        hasError("h1 ", 2);
        hasError("h1\n", 2);
        hasError("h/", 1);
        hasError("h:", 1);
        hasError("h1/", 2);
        hasError("h1:", 2);
        hasError("h" + (char) 0x661, 1);
        hasError("h" + (char) 0xFF11, 1);
        hasError("" + (char) ('h' + 256) + "1", 0);
        hasError("" + (char) 0, 0);
        hasError("h1" + (char) 0xFFFF, 2);
        char[] letters = "abcdefghijklmnopqrstuvwxyz".toCharArray();
        for (char letter : letters) {
            hasError("" + letter + "x", "blsth".indexOf(letter) < 0 ? 0 : 1);
        }
    }

    /** A text is carried out if each order can be, one after the other. */
    private static void carriedOutOneAfterTheOther() {
        SugarTowers hotel = hotel();
        CHECKS.due("refused in the other order", UNSUPPORTED, () -> Checks.read(hotel, "l0/0:0*4;b0+4"));
        CHECKS.due("in this order", 2, () -> Checks.read(hotel, "b0+4;l0/0:0*4"));
        CHECKS.due("tongs are busy after one", UNSUPPORTED, () -> Checks.read(hotel, "b0+4;l0/0:0*4"));
        CHECKS.due("not after an hour", 3, () -> Checks.read(hotel, "b0+4;h1;l0/0:0*4"));
        CHECKS.due("coins of a banquet in the text", 3, () -> Checks.read(hotel, "b0+92;s0@0;h72"));
        CHECKS.due("coins are spent", 0, () -> hotel.account(1));
        CHECKS.due("in an hour of the text", 2, () -> Checks.read(hotel, "h18;b0+1"));
        CHECKS.due("for the banquet's coin", 0, () -> hotel.account(1));
    }

    /** Else nothing of it is. */
    private static void elseNothingOfIt() {
        String[] texts = {"b0+4;b2+99", "b0+1;l0/0:0*1;h1;t0;t0", "s0@1;t1", "h72;b3+1", "s0@0;h0", "b0+1;t9",
            "h72;h18;s0@0"};
        for (String text : texts) {
            SugarTowers hotel = hotel();
            String before = State.ofChanges(hotel);
            Object answer = Checks.read(hotel, text);
            CHECKS.due("not carried out: " + text, true, () -> answer.equals(ILLEGAL) || answer.equals(UNSUPPORTED));
            CHECKS.due("nothing of " + text, before, () -> State.ofChanges(hotel));
            CHECKS.due("no change: " + text, 4, () -> hotel.account(16));
            CHECKS.due("the input is empty: " + text, 0, () -> hotel.account(15));
            CHECKS.due("no position: " + text, -1, hotel::errorPosition);
        }
    }

    /** And the first order that cannot be decides what is thrown. */
    private static void theFirstThatCannotBeDecides() {
        String[] texts = {"t0;t9", "t9;t0", "b0+1;t1;b3+1;b2+99", "b0+1;b3+1;t1;b2+99", "h0;b2+99", "b2+99;h0"};
        String[] due = {UNSUPPORTED, ILLEGAL, UNSUPPORTED, ILLEGAL, ILLEGAL, UNSUPPORTED};
        for (int i = 0; i < texts.length; i++) {
            String text = texts[i];
            SugarTowers hotel = hotel();
            CHECKS.due("decided by the first: " + text, due[i], () -> Checks.read(hotel, text));
        }
        SugarTowers hotel = hotel();
        Checks.read(hotel, "t1;b2+99");
        CHECKS.due("its reason", 9, () -> hotel.refusal(false));
        Checks.read(hotel, "b2+99;t1");
        CHECKS.due("its reason, the other way round", 2, () -> hotel.refusal(false));
    }

    private static void isRefused(String what, SugarTowers hotel, Checks.Call call, int reason, int detail) {
        CHECKS.dueThrow(what, UnsupportedOperationException.class, call);
        CHECKS.due(what + ", reason", reason, () -> hotel.refusal(false));
        CHECKS.due(what + ", detail", detail, () -> hotel.refusal(true));
    }

    private static void layIsRefused(String what, SugarTowers hotel, int[] lay, int reason, int detail) {
        CHECKS.due(what + ", why", reason, () -> hotel.why(lay[0], lay[1], lay[2], lay[3]));
        isRefused(what, hotel, () -> hotel.lay(lay[0], lay[1], lay[2], lay[3]), reason, detail);
        String order = "l" + lay[0] + "/" + lay[1] + ":" + lay[2] + "*" + lay[3];
        CHECKS.due(what + ", in a text", UNSUPPORTED, () -> Checks.read(hotel, order));
        CHECKS.due(what + ", reason in a text", reason, () -> hotel.refusal(false));
        CHECKS.due(what + ", detail in a text", detail, () -> hotel.refusal(true));
    }

    /** 1, there are 6 towers, 4 tongs, 6 banquets that wait, or 10 courses: this number. */
    private static void fullHouse() {
        SugarTowers hotel = Hotels.stocked(6);
        isRefused("7 towers", hotel, hotel::tower, 1, 6);
        for (int i = 0; i < 3; i++) {
            hotel.tongs(10);
        }
        isRefused("5 tongs", hotel, () -> hotel.tongs(10), 1, 4);
        for (int i = 0; i < 6; i++) {
            hotel.banquet(90, 1, 1);
        }
        isRefused("7 banquets", hotel, () -> hotel.banquet(90, 1, 1), 1, 6);
        Hotels.layOnes(hotel, 2, 2, 1, 1, 1, 1, 1, 1, 1, 1, 1);
        layIsRefused("11 courses", hotel, new int[] {2, 0, 0, 1}, 1, 10);
    }

    /** 2, there are too few coins: how many are missing. */
    private static void tooFewCoins() {
        SugarTowers hotel = hotel();
        isRefused("a coin is missing", hotel, () -> {
            hotel.buy(0, 2);
            return hotel.buy(0, 99);
        }, 2, 1);
        isRefused("2 coins are missing", hotel, () -> hotel.buy(1, 50), 2, 2);
        isRefused("199 coins are missing", hotel, () -> hotel.buy(2, 99), 2, 199);
        CHECKS.due("no coin is missing", 49, () -> hotel.buy(1, 49));
        isRefused("all coins are missing", hotel, () -> hotel.buy(2, 1), 2, 3);
    }

    /** 3, the stock would have more than 300 of the grade: how many it has. */
    private static void stockTooFull() {
        SugarTowers hotel = Hotels.rich(4);
        Hotels.buy(hotel, 1, 202);
        isRefused("301", hotel, () -> hotel.buy(1, 99), 3, 202);
        CHECKS.due("300", 300, () -> hotel.buy(1, 98));
        isRefused("301 by one", hotel, () -> hotel.buy(1, 1), 3, 300);
        CHECKS.due("of the other grade", 1, () -> hotel.buy(0, 1));
    }

    /** 4, the tongs are busy: for how many hours. */
    private static void tongsBusy() {
        SugarTowers hotel = Hotels.stocked(2);
        hotel.tongs(10);
        hotel.lay(0, 0, 0, 20);
        for (int left = 5; left >= 1; left--) {
            layIsRefused("busy", hotel, new int[] {1, 0, 0, 1}, 4, left);
            hotel.pass(1);
        }
        CHECKS.due("busy no more", 0, () -> hotel.why(1, 0, 0, 1));
    }

    /** 5, the tongs do not reach so high: their reach. */
    private static void tongsTooShort() {
        SugarTowers hotel = Hotels.stocked(1);
        hotel.tongs(1);
        hotel.tongs(3);
        Hotels.layOnes(hotel, 0, 2);
        layIsRefused("reach 1, course 1", hotel, new int[] {0, 1, 0, 1}, 5, 1);
        Hotels.layOnes(hotel, 0, 2);
        CHECKS.due("reach 3, course 2", 0, () -> hotel.why(0, 2, 0, 1));
        Hotels.layOnes(hotel, 0, 2);
        layIsRefused("reach 3, course 3", hotel, new int[] {0, 2, 0, 1}, 5, 3);
    }

    /** 6, the stock has too few cubes of the grade: how many it has. */
    private static void tooFewCubes() {
        SugarTowers hotel = Hotels.rich(0);
        hotel.buy(1, 4);
        layIsRefused("5 of 4", hotel, new int[] {0, 0, 1, 5}, 6, 4);
        layIsRefused("1 of none", hotel, new int[] {0, 0, 0, 1}, 6, 0);
        CHECKS.due("4 of 4", 0, () -> hotel.lay(0, 0, 1, 4));
        hotel.pass(1);
        layIsRefused("1 of none left", hotel, new int[] {0, 0, 1, 1}, 6, 0);
    }

    /** 7, there are more cubes than in the course below: how many are in that one. */
    private static void widerThanBelow() {
        SugarTowers hotel = Hotels.stocked(1);
        CHECKS.due("none is below the lowest", 0, () -> hotel.why(0, 0, 0, 20));
        Hotels.lay(hotel, 0, 2, 10);
        Hotels.lay(hotel, 0, 1, 6);
        layIsRefused("7 on 6", hotel, new int[] {0, 0, 0, 7}, 7, 6);
        CHECKS.due("6 on 6", 2, () -> hotel.lay(0, 0, 0, 6));
    }

    /** 8, a course would be too weak: the lowest such course. */
    private static void tooWeak() {
        SugarTowers lowest = Hotels.stocked(1);
        Hotels.layOnes(lowest, 0, 0, 2, 2, 2, 2);
        layIsRefused("course 0", lowest, new int[] {0, 0, 2, 1}, 8, 0);
        SugarTowers several = Hotels.stocked(1);
        Hotels.lay(several, 0, 2, 2);
        Hotels.lay(several, 0, 0, 2);
        Hotels.lay(several, 0, 1, 2);
        Hotels.lay(several, 0, 1, 2);
        Hotels.layOnes(several, 0, 0, 1, 1);
        CHECKS.due("course 1 bears 8 and has 7 above", 7, () -> several.courseOf(0, 1, 2));
        Hotels.layOnes(several, 0, 1);
        layIsRefused("course 1 of 8", several, new int[] {0, 0, 1, 1}, 8, 1);
        SugarTowers uppermost = Hotels.stocked(1);
        Hotels.lay(uppermost, 0, 2, 5);
        Hotels.layOnes(uppermost, 0, 0);
        Hotels.dampen(uppermost, 40);
        layIsRefused("the uppermost course bears nothing", uppermost, new int[] {0, 0, 2, 1}, 8, 1);
        SugarTowers two = Hotels.stocked(1);
        Hotels.lay(two, 0, 0, 2);
        Hotels.layOnes(two, 0, 0, 0);
        Hotels.dampen(two, 30);
        CHECKS.due("course 0 bears 2", 2, () -> two.courseOf(0, 0, 3));
        CHECKS.due("as much is above course 0", 2, () -> two.courseOf(0, 0, 2));
        CHECKS.due("course 1 bears 1", 1, () -> two.courseOf(0, 1, 3));
        CHECKS.due("as much is above course 1", 1, () -> two.courseOf(0, 1, 2));
        layIsRefused("both would be, the lowest counts", two, new int[] {0, 0, 0, 1}, 8, 0);
        SugarTowers itself = Hotels.stocked(1);
        Hotels.dampen(itself, 99);
        CHECKS.due("the new course has nothing above it", 0, () -> itself.why(0, 0, 0, 20));
    }

    /** 9, the tower has no courses: the tower. */
    private static void towerWithoutCourses() {
        SugarTowers hotel = Hotels.stocked(6);
        for (int i = 0; i < 6; i++) {
            int tower = i;
            isRefused("tower " + i, hotel, () -> hotel.take(tower), 9, tower);
            CHECKS.due("tower " + i + " in a text", UNSUPPORTED, () -> Checks.read(hotel, "t" + tower));
            CHECKS.due("its number", tower, () -> hotel.refusal(true));
        }
    }

    /** 10, the hour is not later than the one that is now: the hour that is now. */
    private static void hourNotLater() {
        SugarTowers hotel = new SugarTowers();
        isRefused("hour 0 in the hour 0", hotel, () -> hotel.banquet(0, 1, 1), 10, 0);
        CHECKS.due("hour 1 in the hour 0", 0, () -> hotel.banquet(1, 1, 1));
        hotel.pass(30);
        isRefused("hour 30 in the hour 30", hotel, () -> hotel.banquet(30, 1, 1), 10, 30);
        isRefused("hour 29 in the hour 30", hotel, () -> hotel.banquet(29, 1, 1), 10, 30);
        isRefused("hour 7 of the next day has no such number", hotel, () -> hotel.banquet(7, 1, 1), 10, 30);
        CHECKS.due("hour 31 in the hour 30", 1, () -> hotel.banquet(31, 1, 1));
    }

    /** Something is refused for the first that applies of the reasons, in the order in which the method names them. */
    private static void firstReasonOfSeveral() {
        SugarTowers rich = Hotels.rich(2);
        Hotels.buy(rich, 0, 297);
        rich.buy(2, 1);
        rich.buy(1, 99);
        isRefused("buy: 3 before 2", rich, () -> rich.buy(0, 99), 3, 297);
        isRefused("buy: 2 if no other", rich, () -> rich.buy(0, 3), 2, 3);
        SugarTowers hotel = Hotels.stocked(3);
        hotel.tongs(1);
        for (int i = 0; i < 6; i++) {
            hotel.banquet(90, 1, 1);
        }
        isRefused("banquet: 1 before 10", hotel, () -> hotel.banquet(0, 1, 1), 1, 6);
        Hotels.layOnes(hotel, 0, 2, 2, 1, 1, 1, 1, 1, 1, 1, 1);
        Hotels.lay(hotel, 1, 0, 3);
        Hotels.layOnes(hotel, 1, 0);
        Hotels.dampen(hotel, 10);
        hotel.lay(2, 1, 0, 1);
        layIsRefused("lay: 1 before 4, 5, 6 and 7", hotel, new int[] {0, 1, 2, 20}, 1, 10);
        layIsRefused("lay: 4 before 5, 6 and 7", hotel, new int[] {1, 1, 2, 20}, 4, 1);
        hotel.pass(1);
        layIsRefused("lay: 5 before 6 and 7", hotel, new int[] {1, 1, 2, 20}, 5, 1);
        layIsRefused("lay: 6 before 7 and 8", hotel, new int[] {1, 0, 2, 20}, 6, 8);
        layIsRefused("lay: 7 before 8", hotel, new int[] {1, 0, 0, 9}, 7, 1);
        Hotels.layOnes(hotel, 1, 0, 0, 0);
        layIsRefused("lay: 8 if no other", hotel, new int[] {1, 0, 0, 1}, 8, 1);
    }
}
