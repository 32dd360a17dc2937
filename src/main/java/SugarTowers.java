import java.util.NoSuchElementException;

/**
 * Towers of sugar cubes at a hotel: what is bought, laid, shown at banquets, eaten and broken, hour by hour, with
 * orders as texts, undo and a snapshot.
 */
public final class SugarTowers {
    private static final int HOURS_OF_DAY = 24;
    private static final int MAX_PERCENT = 99;
    private static final int FIRST_HUMIDITY = 45;
    private static final int DAMP_ABOVE = 50;
    private static final int DRY_BELOW = 40;

    private static final int GRADES = 3;
    private static final int SOFT = 0;
    private static final int FIRM = 1;
    private static final int FIRST_COINS = 100;
    private static final int MAX_STOCK = 300;
    private static final int MAX_BOUGHT_AT_ONCE = 99;

    private static final int MAX_TONGS = 4;
    private static final int MAX_REACH = 10;
    private static final int MAX_TOWERS = 6;
    private static final int MAX_COURSES = 10;
    private static final int MAX_CUBES = 20;

    private static final int MAX_BANQUETS = 6;
    private static final int MAX_BANQUET_HOUR = 9999;
    private static final int MAX_BANQUET_COINS = 200;
    private static final int MAX_HOURS = 72;
    private static final int MAX_HOURS_AHEAD = 99;

    private static final int MAX_INPUT = 60;
    // An order has two characters or more, and a semicolon stands between two orders.
    private static final int MAX_ORDERS = 20;
    private static final int MAX_PARTS = 4;
    private static final int MAX_UNDONE = 8;
    private static final int NONE = -1;

    private static final int NO_REASON = 0;
    private static final int NO_ROOM = 1;
    private static final int TOO_FEW_COINS = 2;
    private static final int STOCK_FULL = 3;
    private static final int TONGS_BUSY = 4;
    private static final int TONGS_TOO_SHORT = 5;
    private static final int TOO_FEW_CUBES = 6;
    private static final int TOO_WIDE = 7;
    private static final int TOO_WEAK = 8;
    private static final int NO_COURSES = 9;
    private static final int NOT_LATER = 10;

    private static final int DONE = 0;
    private static final int FAULTY = 1;
    private static final int REFUSED = 2;

    private final Hotel now = new Hotel();
    // Orders of a text are tried here first, since nothing of a text may stay if one of them cannot be carried out.
    private final Hotel trial = new Hotel();
    private final Hotel snapshot = new Hotel();
    private boolean isSaved;
    private final History past = new History();
    private final Text input = new Text();
    private int errorAt = NONE;
    private final Refusal latest = new Refusal();
    private final Refusal unkept = new Refusal();

    /** Creates a hotel without towers, tongs, cubes and banquets, in the hour 0, with 100 coins. */
    public SugarTowers() {
    }

    // Humidity, cubes, tongs

    /** Sets the humidity of an hour of the day; returns the humidity before. */
    public int humidity(int hour, int percent) throws IndexOutOfBoundsException, IllegalArgumentException {
        if (!isBetween(0, hour, HOURS_OF_DAY - 1)) {
            throw new IndexOutOfBoundsException("no such hour of the day");
        }
        if (!isBetween(0, percent, MAX_PERCENT)) {
            throw new IllegalArgumentException("the humidity is out of range");
        }
        past.keep(now);
        return now.setHumidity(hour, percent);
    }

    /** Returns the humidity after hours. */
    public int humidityIn(int hours) throws IllegalArgumentException {
        if (!isBetween(0, hours, MAX_HOURS_AHEAD)) {
            throw new IllegalArgumentException("the hours are out of range");
        }
        return now.humidityAfter(hours);
    }

    /** Buys cubes; returns how many of the grade the stock has then. */
    public int buy(int grade, int many) throws IllegalArgumentException, UnsupportedOperationException {
        if (!isPurchase(grade, many)) {
            throw new IllegalArgumentException("the grade or the number of cubes is out of range");
        }
        if (now.reasonAgainstBuying(latest, grade, many) != NO_REASON) {
            throw new UnsupportedOperationException("the cubes cannot be bought");
        }
        past.keep(now);
        return now.buyCubes(grade, many);
    }

    /** Returns how many cubes of a grade the stock has. */
    public int stock(int grade) throws IllegalArgumentException {
        if (!isGrade(grade)) {
            throw new IllegalArgumentException("no such grade");
        }
        return now.stockOf(grade);
    }

    /** Adds tongs; returns their number. */
    public int tongs(int reach) throws IllegalArgumentException, UnsupportedOperationException {
        if (!isBetween(1, reach, MAX_REACH)) {
            throw new IllegalArgumentException("the reach is out of range");
        }
        if (now.tongsCount >= MAX_TONGS) {
            latest.because(NO_ROOM, MAX_TONGS);
            throw new UnsupportedOperationException("no room for tongs");
        }
        past.keep(now);
        return now.addTongs(reach);
    }

    /** Returns a number of tongs: 0 their reach, 1 the hours for which they are busy, 2 the cubes that they laid. */
    public int tongsOf(int number, int what) throws IndexOutOfBoundsException, IllegalArgumentException {
        Tongs asked = knownTongs(number);
        switch (what) {
            case 0: return asked.reach;
            case 1: return asked.busyHours;
            case 2: return asked.laidCubes;
            default: throw new IllegalArgumentException("no such number of tongs");
        }
    }

    /** Returns the tongs with the least reach of those that are not busy and reach a course. */
    public int tongsFor(int course) throws IllegalArgumentException, NoSuchElementException {
        if (!isBetween(0, course, MAX_COURSES - 1)) {
            throw new IllegalArgumentException("the course is out of range");
        }
        int found = now.shortestTongsFor(course);
        if (found == NONE) {
            throw new NoSuchElementException("no tongs for the course");
        }
        return found;
    }

    // Towers

    /** Adds a tower; returns its number. */
    public int tower() throws UnsupportedOperationException {
        if (now.towerCount >= MAX_TOWERS) {
            latest.because(NO_ROOM, MAX_TOWERS);
            throw new UnsupportedOperationException("no room for a tower");
        }
        past.keep(now);
        return now.addTower();
    }

    /** Lays a course on a tower; returns the number of the course. */
    public int lay(int tower, int tongs, int grade, int cubes)
            throws IndexOutOfBoundsException, IllegalArgumentException, UnsupportedOperationException {
        if (reasonAgainstCourse(latest, tower, tongs, grade, cubes) != NO_REASON) {
            throw new UnsupportedOperationException("the course cannot be laid");
        }
        past.keep(now);
        return now.layCourse(tower, tongs, grade, cubes);
    }

    /** Returns the reason for which a course could not be laid, 0 if it could be. */
    public int why(int tower, int tongs, int grade, int cubes)
            throws IndexOutOfBoundsException, IllegalArgumentException {
        return reasonAgainstCourse(unkept, tower, tongs, grade, cubes);
    }

    /** Takes the uppermost course off a tower; returns how many cubes it had. */
    public int take(int tower) throws IndexOutOfBoundsException, UnsupportedOperationException {
        Tower lowered = knownTower(tower);
        if (lowered.courses == 0) {
            latest.because(NO_COURSES, tower);
            throw new UnsupportedOperationException("the tower has no courses");
        }
        past.keep(now);
        return now.takeCourse(lowered);
    }

    /** Returns a number of a course: 0 its grade, 1 its cubes, 2 what is above it, 3 what it bears. */
    public int courseOf(int tower, int course, int what) throws IndexOutOfBoundsException, IllegalArgumentException {
        Tower asked = towerWithCourse(tower, course);
        switch (what) {
            case 0: return asked.gradeAt(course);
            case 1: return asked.cubesAt(course);
            case 2: return asked.cubesFrom(course + 1);
            case 3: return asked.cubesAt(course) * cubeBears(asked.gradeAt(course), asked.dampness);
            default: throw new IllegalArgumentException("no such number of a course");
        }
    }

    /** Returns what a course bears by a second way: cube by cube. */
    public int bearsAgain(int tower, int course) throws IndexOutOfBoundsException {
        Tower asked = towerWithCourse(tower, course);
        int bears = 0;
        for (int cube = 0; cube < asked.cubesAt(course); cube++) {
            bears += cubeBears(asked.gradeAt(course), asked.dampness);
        }
        return bears;
    }

    /**
     * Returns a number of a tower: 0 its courses, 1 its cubes, 2 its dampness, 3 the banquets that wait and have it,
     * 4 the courses that broke so far.
     */
    public int towerOf(int tower, int what) throws IndexOutOfBoundsException, IllegalArgumentException {
        Tower asked = knownTower(tower);
        switch (what) {
            case 0: return asked.courses;
            case 1: return asked.cubesFrom(0);
            case 2: return asked.dampness;
            case 3: return now.banquetsWith(tower);
            case 4: return asked.brokenCourses;
            default: throw new IllegalArgumentException("no such number of a tower");
        }
    }

    /** Returns how many cubes a new uppermost course could have, so that no course would be too weak, 20 at most. */
    public int spare(int tower) throws IndexOutOfBoundsException {
        return knownTower(tower).spareCubes();
    }

    /** Returns "n" for a tower without courses, "w" if a course could bear no cube more, otherwise "s". */
    public char sign(int tower) throws IndexOutOfBoundsException {
        Tower asked = knownTower(tower);
        if (asked.courses == 0) {
            return 'n';
        }
        return asked.spareCubes() <= 0 ? 'w' : 's';
    }

    /** Tells whether all courses of a tower would bear what is above them at some dampness. */
    public boolean stands(int tower, int dampness) throws IndexOutOfBoundsException, IllegalArgumentException {
        Tower asked = knownTower(tower);
        if (!isBetween(0, dampness, MAX_PERCENT)) {
            throw new IllegalArgumentException("the dampness is out of range");
        }
        return asked.lowestWeakCourse(dampness, 0) == NONE;
    }

    /** Returns in how many hours a course of a tower breaks, if only hours went by and no banquet was held. */
    public int breaksIn(int tower) throws IndexOutOfBoundsException, NoSuchElementException {
        int hours = now.hoursUntilBreak(knownTower(tower));
        if (hours == NONE) {
            throw new NoSuchElementException("no course would break soon");
        }
        return hours;
    }

    // Banquets and hours

    /** Adds a banquet; returns its number. */
    public int banquet(int hour, int courses, int coins)
            throws IllegalArgumentException, UnsupportedOperationException {
        if (!isBetween(0, hour, MAX_BANQUET_HOUR) || !isBetween(1, courses, MAX_COURSES)
                || !isBetween(1, coins, MAX_BANQUET_COINS)) {
            throw new IllegalArgumentException("the hour, the courses or the coins are out of range");
        }
        if (now.reasonAgainstBanquet(latest, hour) != NO_REASON) {
            throw new UnsupportedOperationException("the banquet cannot be added");
        }
        past.keep(now);
        return now.addBanquet(hour, courses, coins);
    }

    /** Makes a tower the one of a banquet; returns how many courses are missing. */
    public int show(int banquet, int tower) throws NoSuchElementException, IndexOutOfBoundsException {
        Banquet shown = knownBanquet(banquet);
        knownTower(tower);
        past.keep(now);
        shown.tower = tower;
        return now.missingCourses(shown);
    }

    /** Drops a banquet; returns how many wait then. */
    public int cancel(int banquet) throws NoSuchElementException {
        knownBanquet(banquet);
        past.keep(now);
        now.dropBanquet(now.placeOfBanquet(banquet));
        return now.waiting;
    }

    /**
     * Returns a number of a banquet that waits: 0 its hour, 1 the courses that it wants, 2 its coins, 3 its tower, -1
     * without one, 4 how many courses are missing.
     */
    public int banquetOf(int banquet, int what) throws NoSuchElementException, IllegalArgumentException {
        Banquet asked = knownBanquet(banquet);
        switch (what) {
            case 0: return asked.hour;
            case 1: return asked.wantedCourses;
            case 2: return asked.coins;
            case 3: return asked.tower;
            case 4: return now.missingCourses(asked);
            default: throw new IllegalArgumentException("no such number of a banquet");
        }
    }

    /** Returns the banquet that is held next, of several of one hour the lowest one. */
    public int next() throws NoSuchElementException {
        Banquet soonest = now.soonestBanquet();
        if (soonest == null) {
            throw new NoSuchElementException("no banquet waits");
        }
        return soonest.number;
    }

    /** Lets hours go by; returns how many courses broke in them. */
    public int pass(int hours) throws IllegalArgumentException {
        if (!isBetween(1, hours, MAX_HOURS)) {
            throw new IllegalArgumentException("the hours are out of range");
        }
        past.keep(now);
        return now.letHoursGoBy(hours);
    }

    // Texts, accounts, undo and snapshot

    /** Appends a character to the input; returns the characters in the input then. */
    public int append(char c) throws IllegalStateException {
        if (input.length >= MAX_INPUT) {
            throw new IllegalStateException("the input is full");
        }
        return input.addSign(c);
    }

    /** Carries out the text in the input, which is empty afterwards; returns the number of orders. */
    public int read() throws IllegalArgumentException, UnsupportedOperationException {
        errorAt = input.parseOrders();
        input.length = 0;
        if (errorAt != NONE) {
            throw new IllegalArgumentException("the text has an error");
        }
        trial.copyFrom(now);
        int outcome = DONE;
        for (int place = 0; place < input.orderCount && outcome == DONE; place++) {
            outcome = tryOrder(input.orderAt(place));
        }
        if (outcome == FAULTY) {
            throw new IllegalArgumentException("an order cannot be");
        }
        if (outcome == REFUSED) {
            throw new UnsupportedOperationException("an order is refused");
        }
        past.keep(now);
        now.copyFrom(trial);
        return input.orderCount;
    }

    /** Returns the error position of the text of the latest call of read, or -1 if there is none. */
    public int errorPosition() {
        return errorAt;
    }

    /** Returns the reason of the latest refusal, or its detail. */
    public int refusal(boolean isDetail) throws NoSuchElementException {
        if (latest.reason == NO_REASON) {
            throw new NoSuchElementException("nothing was refused");
        }
        return isDetail ? latest.detail : latest.reason;
    }

    /**
     * Returns an account: 0 the hour, 1 the coins, 2 the towers, 3 the tongs, 4 those that are busy, 5 the banquets
     * that wait, 6 those that were held and not spoilt, 7 those that were spoilt, 8 the cubes that were bought, 9
     * those in the stock, 10 those in towers, 11 those that broke, 12 those that were eaten, 13 the courses of all
     * towers, 14 the coins that banquets brought, 15 the characters in the input, 16 the changes that can be undone.
     */
    public int account(int what) throws IllegalArgumentException {
        switch (what) {
            case 0: return now.hour;
            case 1: return now.coins;
            case 2: return now.towerCount;
            case 3: return now.tongsCount;
            case 4: return now.busyTongs();
            case 5: return now.waiting;
            case 6: return now.heldBanquets;
            case 7: return now.spoiltBanquets;
            case 8: return sumOf(now.bought);
            case 9: return sumOf(now.stock);
            case 10: return now.cubesInTowers();
            case 11: return now.brokenCubes;
            case 12: return now.eatenCubes;
            case 13: return now.coursesInTowers();
            case 14: return now.banquetCoins;
            case 15: return input.length;
            case 16: return past.count;
            default: throw new IllegalArgumentException("no such account");
        }
    }

    /** Tells, by a second way, whether cubes, courses and coins add up. */
    public boolean isWell() {
        return now.cubesAddUp() && now.noCourseOverhangs() && now.coinsAddUp();
    }

    /** Returns the mean dampness of the towers. */
    public double meanDampness() throws ArithmeticException {
        if (now.towerCount == 0) {
            throw new ArithmeticException("there are no towers");
        }
        return (double) now.sumOfDampness() / (double) now.towerCount;
    }

    /** Returns the share of the cubes that broke of all that were bought. */
    public float broken() throws ArithmeticException {
        int boughtCubes = sumOf(now.bought);
        if (boughtCubes == 0) {
            throw new ArithmeticException("no cubes were bought");
        }
        return (float) now.brokenCubes / (float) boughtCubes;
    }

    /** Undoes the latest change; returns the number of changes that can still be undone. */
    public int undo() throws IllegalStateException {
        if (past.count == 0) {
            throw new IllegalStateException("no change can be undone");
        }
        past.giveBackTo(now);
        return past.count;
    }

    /** Takes a snapshot of what changes can change; returns the towers. */
    public int save() {
        snapshot.copyFrom(now);
        isSaved = true;
        return snapshot.towerCount;
    }

    /** Makes everything that changes can change as it is in the snapshot; returns the towers. */
    public int restore() throws IllegalStateException {
        if (!isSaved) {
            throw new IllegalStateException("there is no snapshot");
        }
        now.copyFrom(snapshot);
        past.count = 0;
        return now.towerCount;
    }

    private Tower knownTower(int number) {
        Tower known = now.towerAt(number);
        if (known == null) {
            throw new IndexOutOfBoundsException("no such tower");
        }
        return known;
    }

    private Tower towerWithCourse(int number, int course) {
        Tower known = knownTower(number);
        if (!known.hasCourse(course)) {
            throw new IndexOutOfBoundsException("no such course");
        }
        return known;
    }

    private Tongs knownTongs(int number) {
        Tongs known = now.tongsAt(number);
        if (known == null) {
            throw new IndexOutOfBoundsException("no such tongs");
        }
        return known;
    }

    private Banquet knownBanquet(int number) {
        Banquet known = now.banquetAt(now.placeOfBanquet(number));
        if (known == null) {
            throw new NoSuchElementException("no such banquet waits");
        }
        return known;
    }

    private int reasonAgainstCourse(Refusal refusal, int tower, int tongs, int grade, int cubes) {
        knownTower(tower);
        knownTongs(tongs);
        if (!isCourse(grade, cubes)) {
            throw new IllegalArgumentException("the grade or the number of cubes is out of range");
        }
        return now.reasonAgainstLaying(refusal, tower, tongs, grade, cubes);
    }

    private int tryOrder(Order order) {
        if (order == null) {
            return FAULTY;
        }
        switch (order.letter) {
            case 'b': return tryToBuy(order.parts[0], order.parts[1]);
            case 'l': return tryToLay(order.parts[0], order.parts[1], order.parts[2], order.parts[3]);
            case 't': return tryToTake(order.parts[0]);
            case 's': return tryToShow(order.parts[0], order.parts[1]);
            case 'h': return tryToPass(order.parts[0]);
            default: return FAULTY;
        }
    }

    private int tryToBuy(int grade, int many) {
        if (!isPurchase(grade, many)) {
            return FAULTY;
        }
        if (trial.reasonAgainstBuying(latest, grade, many) != NO_REASON) {
            return REFUSED;
        }
        trial.buyCubes(grade, many);
        return DONE;
    }

    private int tryToLay(int tower, int tongs, int grade, int cubes) {
        if (trial.towerAt(tower) == null || trial.tongsAt(tongs) == null || !isCourse(grade, cubes)) {
            return FAULTY;
        }
        if (trial.reasonAgainstLaying(latest, tower, tongs, grade, cubes) != NO_REASON) {
            return REFUSED;
        }
        trial.layCourse(tower, tongs, grade, cubes);
        return DONE;
    }

    private int tryToTake(int tower) {
        Tower lowered = trial.towerAt(tower);
        if (lowered == null) {
            return FAULTY;
        }
        if (lowered.courses == 0) {
            latest.because(NO_COURSES, tower);
            return REFUSED;
        }
        trial.takeCourse(lowered);
        return DONE;
    }

    private int tryToShow(int banquet, int tower) {
        Banquet shown = trial.banquetAt(trial.placeOfBanquet(banquet));
        if (shown == null || trial.towerAt(tower) == null) {
            return FAULTY;
        }
        shown.tower = tower;
        return DONE;
    }

    private int tryToPass(int hours) {
        if (!isBetween(1, hours, MAX_HOURS)) {
            return FAULTY;
        }
        trial.letHoursGoBy(hours);
        return DONE;
    }

    private static boolean isBetween(int least, int number, int most) {
        return number >= least && number <= most;
    }

    private static boolean isGrade(int grade) {
        return grade >= 0 && grade < GRADES;
    }

    private static boolean isPurchase(int grade, int many) {
        return isGrade(grade) && isBetween(1, many, MAX_BOUGHT_AT_ONCE);
    }

    private static boolean isCourse(int grade, int cubes) {
        return isGrade(grade) && isBetween(1, cubes, MAX_CUBES);
    }

    private static int priceOfCube(int grade) {
        if (grade == SOFT) {
            return 1;
        }
        return grade == FIRM ? 2 : 3;
    }

    private static int cubeBears(int grade, int dampness) {
        int dry = 15;
        if (grade == SOFT) {
            dry = 4;
        } else if (grade == FIRM) {
            dry = 8;
        }
        return Math.max(0, dry - dampness / 10);
    }

    private static int dampnessAfterHour(int dampness, int percent) {
        if (percent > DAMP_ABOVE) {
            return Math.min(MAX_PERCENT, dampness + (percent - DAMP_ABOVE) / 10);
        }
        return percent < DRY_BELOW ? Math.max(0, dampness - 1) : dampness;
    }

    private static int sumOf(int[] numbers) {
        int sum = 0;
        for (int number : numbers) {
            sum += number;
        }
        return sum;
    }

    /** All that changes can change, so that one copy of it is enough for undo, a snapshot and a trial. */
    private static final class Hotel {
        private int hour;
        private int coins = FIRST_COINS;
        private final int[] humidities = new int[HOURS_OF_DAY];
        private final int[] stock = new int[GRADES];
        private final int[] bought = new int[GRADES];
        private final Tongs[] tongsRow = new Tongs[MAX_TONGS];
        private int tongsCount;
        private final Tower[] towerRow = new Tower[MAX_TOWERS];
        private int towerCount;
        // The banquets that wait stand first, by their numbers.
        private final Banquet[] banquetRow = new Banquet[MAX_BANQUETS];
        private int waiting;
        private int nextBanquet;
        private int heldBanquets;
        private int spoiltBanquets;
        private int banquetCoins;
        private int brokenCubes;
        private int eatenCubes;

        Hotel() {
            for (int i = 0; i < HOURS_OF_DAY; i++) {
                humidities[i] = FIRST_HUMIDITY;
            }
            for (int i = 0; i < MAX_TONGS; i++) {
                tongsRow[i] = new Tongs();
            }
            for (int i = 0; i < MAX_TOWERS; i++) {
                towerRow[i] = new Tower();
            }
            for (int i = 0; i < MAX_BANQUETS; i++) {
                banquetRow[i] = new Banquet();
            }
        }

        void copyFrom(Hotel other) {
            hour = other.hour;
            coins = other.coins;
            System.arraycopy(other.humidities, 0, humidities, 0, HOURS_OF_DAY);
            System.arraycopy(other.stock, 0, stock, 0, GRADES);
            System.arraycopy(other.bought, 0, bought, 0, GRADES);
            tongsCount = other.tongsCount;
            for (int i = 0; i < MAX_TONGS; i++) {
                tongsRow[i].copyFrom(other.tongsRow[i]);
            }
            towerCount = other.towerCount;
            for (int i = 0; i < MAX_TOWERS; i++) {
                towerRow[i].copyFrom(other.towerRow[i]);
            }
            waiting = other.waiting;
            for (int i = 0; i < MAX_BANQUETS; i++) {
                banquetRow[i].copyFrom(other.banquetRow[i]);
            }
            nextBanquet = other.nextBanquet;
            heldBanquets = other.heldBanquets;
            spoiltBanquets = other.spoiltBanquets;
            banquetCoins = other.banquetCoins;
            brokenCubes = other.brokenCubes;
            eatenCubes = other.eatenCubes;
        }

        int humidityAfter(int hours) {
            return humidities[Math.floorMod(hour + hours, HOURS_OF_DAY)];
        }

        int setHumidity(int hourOfDay, int percent) {
            int place = Math.floorMod(hourOfDay, HOURS_OF_DAY);
            int before = humidities[place];
            humidities[place] = percent;
            return before;
        }

        int stockOf(int grade) {
            return isGrade(grade) ? stock[grade] : 0;
        }

        int reasonAgainstBuying(Refusal refusal, int grade, int many) {
            int has = stockOf(grade);
            if (has + many > MAX_STOCK) {
                return refusal.because(STOCK_FULL, has);
            }
            int missing = many * priceOfCube(grade) - coins;
            return missing > 0 ? refusal.because(TOO_FEW_COINS, missing) : NO_REASON;
        }

        int buyCubes(int grade, int many) {
            if (isGrade(grade)) {
                stock[grade] += many;
                bought[grade] += many;
                coins -= many * priceOfCube(grade);
            }
            return stockOf(grade);
        }

        Tongs tongsAt(int number) {
            return number >= 0 && number < tongsCount && number < MAX_TONGS ? tongsRow[number] : null;
        }

        int addTongs(int reach) {
            int number = tongsCount;
            if (number >= 0 && number < MAX_TONGS) {
                tongsRow[number].start(reach);
                tongsCount++;
            }
            return number;
        }

        int shortestTongsFor(int course) {
            int found = NONE;
            int leastReach = MAX_REACH + 1;
            for (int i = 0; i < tongsCount && i < MAX_TONGS; i++) {
                Tongs each = tongsRow[i];
                if (each.busyHours == 0 && each.reach > course && each.reach < leastReach) {
                    found = i;
                    leastReach = each.reach;
                }
            }
            return found;
        }

        int busyTongs() {
            int busy = 0;
            for (int i = 0; i < tongsCount && i < MAX_TONGS; i++) {
                busy += tongsRow[i].busyHours > 0 ? 1 : 0;
            }
            return busy;
        }

        Tower towerAt(int number) {
            return number >= 0 && number < towerCount && number < MAX_TOWERS ? towerRow[number] : null;
        }

        int addTower() {
            int number = towerCount;
            if (number >= 0 && number < MAX_TOWERS) {
                towerRow[number].start();
                towerCount++;
            }
            return number;
        }

        int reasonAgainstLaying(Refusal refusal, int tower, int tongs, int grade, int cubes) {
            Tower raised = towerAt(tower);
            Tongs used = tongsAt(tongs);
            if (raised == null || used == null) {
                return NO_REASON;
            }
            int course = raised.courses;
            if (course >= MAX_COURSES) {
                return refusal.because(NO_ROOM, MAX_COURSES);
            }
            if (used.busyHours > 0) {
                return refusal.because(TONGS_BUSY, used.busyHours);
            }
            if (course >= used.reach) {
                return refusal.because(TONGS_TOO_SHORT, used.reach);
            }
            if (stockOf(grade) < cubes) {
                return refusal.because(TOO_FEW_CUBES, stockOf(grade));
            }
            if (course > 0 && cubes > raised.cubesAt(course - 1)) {
                return refusal.because(TOO_WIDE, raised.cubesAt(course - 1));
            }
            int weak = raised.lowestWeakCourse(raised.dampness, cubes);
            return weak == NONE ? NO_REASON : refusal.because(TOO_WEAK, weak);
        }

        int layCourse(int tower, int tongs, int grade, int cubes) {
            Tower raised = towerAt(tower);
            Tongs used = tongsAt(tongs);
            if (raised == null || used == null || !isGrade(grade)) {
                return NONE;
            }
            stock[grade] -= cubes;
            used.busyHours = cubes / 5 + 1;
            used.laidCubes += cubes;
            return raised.addCourse(grade, cubes);
        }

        int takeCourse(Tower tower) {
            int course = tower.courses - 1;
            int grade = tower.gradeAt(course);
            int taken = tower.removeFrom(course);
            int kept = Math.min(taken, MAX_STOCK - stockOf(grade));
            if (isGrade(grade)) {
                stock[grade] += kept;
            }
            brokenCubes += taken - kept;
            return taken;
        }

        int hoursUntilBreak(Tower tower) {
            int dampness = tower.dampness;
            for (int hours = 1; hours <= MAX_HOURS; hours++) {
                dampness = dampnessAfterHour(dampness, humidityAfter(hours - 1));
                if (tower.lowestWeakCourse(dampness, 0) != NONE) {
                    return hours;
                }
            }
            return NONE;
        }

        int placeOfBanquet(int number) {
            for (int i = 0; i < waiting && i < MAX_BANQUETS; i++) {
                if (banquetRow[i].number == number) {
                    return i;
                }
            }
            return NONE;
        }

        Banquet banquetAt(int place) {
            return place >= 0 && place < waiting && place < MAX_BANQUETS ? banquetRow[place] : null;
        }

        int reasonAgainstBanquet(Refusal refusal, int itsHour) {
            if (waiting >= MAX_BANQUETS) {
                return refusal.because(NO_ROOM, MAX_BANQUETS);
            }
            return itsHour <= hour ? refusal.because(NOT_LATER, hour) : NO_REASON;
        }

        int addBanquet(int itsHour, int courses, int itsCoins) {
            int number = nextBanquet;
            if (waiting >= 0 && waiting < MAX_BANQUETS) {
                banquetRow[waiting].start(number, itsHour, courses, itsCoins);
                waiting++;
                nextBanquet++;
            }
            return number;
        }

        void dropBanquet(int place) {
            if (banquetAt(place) == null) {
                return;
            }
            for (int i = place; i < waiting - 1 && i < MAX_BANQUETS - 1; i++) {
                banquetRow[i].copyFrom(banquetRow[i + 1]);
            }
            waiting--;
        }

        int missingCourses(Banquet banquet) {
            Tower shown = towerAt(banquet.tower);
            int there = shown == null ? 0 : shown.courses;
            return Math.max(0, banquet.wantedCourses - there);
        }

        int banquetsWith(int tower) {
            int found = 0;
            for (int i = 0; i < waiting && i < MAX_BANQUETS; i++) {
                found += banquetRow[i].tower == tower ? 1 : 0;
            }
            return found;
        }

        Banquet soonestBanquet() {
            Banquet soonest = null;
            for (int i = 0; i < waiting && i < MAX_BANQUETS; i++) {
                if (soonest == null || banquetRow[i].hour < soonest.hour) {
                    soonest = banquetRow[i];
                }
            }
            return soonest;
        }

        int letHoursGoBy(int hours) {
            int broke = 0;
            for (int i = 0; i < hours; i++) {
                makeTowersDamp();
                broke += breakWeakTowers();
                restTongs();
                hour++;
                holdBanquets();
                dropHeldBanquets();
            }
            return broke;
        }

        private void makeTowersDamp() {
            int percent = humidityAfter(0);
            for (int i = 0; i < towerCount && i < MAX_TOWERS; i++) {
                towerRow[i].dampness = dampnessAfterHour(towerRow[i].dampness, percent);
            }
        }

        private int breakWeakTowers() {
            int broke = 0;
            for (int i = 0; i < towerCount && i < MAX_TOWERS; i++) {
                Tower each = towerRow[i];
                int weak = each.lowestWeakCourse(each.dampness, 0);
                if (weak != NONE) {
                    int courses = each.courses - weak;
                    each.brokenCourses += courses;
                    broke += courses;
                    brokenCubes += each.removeFrom(weak);
                }
            }
            return broke;
        }

        private void restTongs() {
            for (int i = 0; i < tongsCount && i < MAX_TONGS; i++) {
                tongsRow[i].busyHours = Math.max(0, tongsRow[i].busyHours - 1);
            }
        }

        private void holdBanquets() {
            for (int i = 0; i < waiting && i < MAX_BANQUETS; i++) {
                Banquet each = banquetRow[i];
                if (each.hour != hour) {
                    continue;
                }
                Tower shown = towerAt(each.tower);
                if (shown == null || shown.courses < each.wantedCourses) {
                    spoiltBanquets++;
                } else {
                    heldBanquets++;
                    coins += each.coins;
                    banquetCoins += each.coins;
                    eatenCubes += shown.removeFrom(0);
                    shown.dampness = 0;
                }
            }
        }

        private void dropHeldBanquets() {
            for (int i = MAX_BANQUETS - 1; i >= 0; i--) {
                if (i < waiting && banquetRow[i].hour == hour) {
                    dropBanquet(i);
                }
            }
        }

        int cubesInTowers() {
            int cubes = 0;
            for (int i = 0; i < towerCount && i < MAX_TOWERS; i++) {
                cubes += towerRow[i].cubesFrom(0);
            }
            return cubes;
        }

        int coursesInTowers() {
            int courses = 0;
            for (int i = 0; i < towerCount && i < MAX_TOWERS; i++) {
                courses += towerRow[i].courses;
            }
            return courses;
        }

        int sumOfDampness() {
            int sum = 0;
            for (int i = 0; i < towerCount && i < MAX_TOWERS; i++) {
                sum += towerRow[i].dampness;
            }
            return sum;
        }

        boolean cubesAddUp() {
            return sumOf(bought) == sumOf(stock) + cubesInTowers() + brokenCubes + eatenCubes;
        }

        boolean noCourseOverhangs() {
            for (int i = 0; i < towerCount && i < MAX_TOWERS; i++) {
                if (towerRow[i].overhangs()) {
                    return false;
                }
            }
            return true;
        }

        boolean coinsAddUp() {
            int paid = 0;
            for (int grade = 0; grade < GRADES; grade++) {
                paid += bought[grade] * priceOfCube(grade);
            }
            return coins == FIRST_COINS - paid + banquetCoins;
        }
    }

    /** A tower: its courses from the lowest one on, and its dampness. */
    private static final class Tower {
        private final int[] grades = new int[MAX_COURSES];
        private final int[] cubes = new int[MAX_COURSES];
        private int courses;
        private int dampness;
        private int brokenCourses;

        void start() {
            courses = 0;
            dampness = 0;
            brokenCourses = 0;
        }

        void copyFrom(Tower other) {
            System.arraycopy(other.grades, 0, grades, 0, MAX_COURSES);
            System.arraycopy(other.cubes, 0, cubes, 0, MAX_COURSES);
            courses = other.courses;
            dampness = other.dampness;
            brokenCourses = other.brokenCourses;
        }

        boolean hasCourse(int course) {
            return course >= 0 && course < courses && course < MAX_COURSES;
        }

        int gradeAt(int course) {
            return hasCourse(course) ? grades[course] : SOFT;
        }

        int cubesAt(int course) {
            return hasCourse(course) ? cubes[course] : 0;
        }

        /** Returns the cubes of a course and of all above it. */
        int cubesFrom(int course) {
            int sum = 0;
            for (int i = Math.max(0, course); i < courses && i < MAX_COURSES; i++) {
                sum += cubes[i];
            }
            return sum;
        }

        int addCourse(int grade, int many) {
            int course = courses;
            if (course >= 0 && course < MAX_COURSES) {
                grades[course] = grade;
                cubes[course] = many;
                courses++;
            }
            return course;
        }

        /** Takes away a course and all above it; returns how many cubes they had. */
        int removeFrom(int course) {
            int removed = cubesFrom(course);
            if (hasCourse(course)) {
                courses = course;
            }
            return removed;
        }

        /** Returns the lowest course that is too weak at some dampness with more cubes on top, or NONE. */
        int lowestWeakCourse(int someDampness, int onTop) {
            int weak = NONE;
            int above = onTop;
            for (int i = Math.min(courses, MAX_COURSES) - 1; i >= 0; i--) {
                if (cubes[i] * cubeBears(grades[i], someDampness) < above) {
                    weak = i;
                }
                above += cubes[i];
            }
            return weak;
        }

        /** Returns how many cubes more all courses could bear, as many as a course can have at most. */
        int spareCubes() {
            int spareNow = MAX_CUBES;
            int above = 0;
            for (int i = Math.min(courses, MAX_COURSES) - 1; i >= 0; i--) {
                spareNow = Math.min(spareNow, cubes[i] * cubeBears(grades[i], dampness) - above);
                above += cubes[i];
            }
            return spareNow;
        }

        boolean overhangs() {
            for (int i = 1; i < courses && i < MAX_COURSES; i++) {
                if (cubes[i] > cubes[i - 1]) {
                    return true;
                }
            }
            return false;
        }
    }

    /** Tongs, which reach the courses whose number is less than their reach. */
    private static final class Tongs {
        private int reach;
        private int busyHours;
        private int laidCubes;

        void start(int itsReach) {
            reach = itsReach;
            busyHours = 0;
            laidCubes = 0;
        }

        void copyFrom(Tongs other) {
            reach = other.reach;
            busyHours = other.busyHours;
            laidCubes = other.laidCubes;
        }
    }

    /** A banquet that waits. */
    private static final class Banquet {
        private int number;
        private int hour;
        private int wantedCourses;
        private int coins;
        private int tower = NONE;

        void start(int itsNumber, int itsHour, int courses, int itsCoins) {
            number = itsNumber;
            hour = itsHour;
            wantedCourses = courses;
            coins = itsCoins;
            tower = NONE;
        }

        void copyFrom(Banquet other) {
            number = other.number;
            hour = other.hour;
            wantedCourses = other.wantedCourses;
            coins = other.coins;
            tower = other.tower;
        }
    }

    /** How the hotel was before each of the latest changes; the rows are used again in a ring. */
    private static final class History {
        private final Hotel[] ring = new Hotel[MAX_UNDONE];
        private int newest;
        private int count;

        History() {
            for (int i = 0; i < MAX_UNDONE; i++) {
                ring[i] = new Hotel();
            }
        }

        void keep(Hotel before) {
            newest = Math.floorMod(newest + 1, MAX_UNDONE);
            ring[newest].copyFrom(before);
            count = Math.min(MAX_UNDONE, count + 1);
        }

        void giveBackTo(Hotel hotel) {
            hotel.copyFrom(ring[Math.floorMod(newest, MAX_UNDONE)]);
            newest = Math.floorMod(newest - 1, MAX_UNDONE);
            count--;
        }
    }

    /** A reason for which something was refused, with its detail. */
    private static final class Refusal {
        private int reason = NO_REASON;
        private int detail;

        int because(int itsReason, int itsDetail) {
            reason = itsReason;
            detail = itsDetail;
            return itsReason;
        }
    }

    /** An order of a text: its letter, and its digits and numbers as they come. */
    private static final class Order {
        private int letter;
        private final int[] parts = new int[MAX_PARTS];
    }

    /** The input, and the orders of the text that was parsed last. */
    private static final class Text {
        private final char[] signs = new char[MAX_INPUT];
        private int length;
        private int at;
        private final Order[] orders = new Order[MAX_ORDERS];
        private int orderCount;

        Text() {
            for (int i = 0; i < MAX_ORDERS; i++) {
                orders[i] = new Order();
            }
        }

        int addSign(char c) {
            if (length >= 0 && length < MAX_INPUT) {
                signs[length] = c;
                length++;
            }
            return length;
        }

        Order orderAt(int place) {
            return place >= 0 && place < orderCount && place < MAX_ORDERS ? orders[place] : null;
        }

        /** Returns the error position of the text, or NONE. */
        int parseOrders() {
            at = 0;
            orderCount = 0;
            for (int i = 0; i < MAX_ORDERS; i++) {
                if (!parseOrder(orders[i])) {
                    return at;
                }
                orderCount++;
                if (at >= length) {
                    return NONE;
                }
                if (signHere() != ';') {
                    return at;
                }
                at++;
            }
            return at;
        }

        private boolean parseOrder(Order order) {
            order.letter = signHere();
            String form = formOf(order.letter);
            if (form.isEmpty()) {
                return false;
            }
            at++;
            int part = 0;
            for (int i = 0; i < form.length(); i++) {
                char due = form.charAt(i);
                if (due == 'd' || due == 'n') {
                    int value = parseNumber(due == 'd' ? 1 : 2);
                    if (value == NONE || part >= MAX_PARTS) {
                        return false;
                    }
                    order.parts[part] = value;
                    part++;
                } else if (signHere() == due) {
                    at++;
                } else {
                    return false;
                }
            }
            return true;
        }

        /** Returns what stands behind the letter of an order: d for one digit, n for one or two, or itself. */
        private static String formOf(int letter) {
            switch (letter) {
                case 'b': return "d+n";
                case 'l': return "d/d:d*n";
                case 't': return "d";
                case 's': return "n@d";
                case 'h': return "n";
                default: return "";
            }
        }

        private int parseNumber(int mostDigits) {
            int value = NONE;
            for (int i = 0; i < mostDigits; i++) {
                int sign = signHere();
                if (sign < '0' || sign > '9') {
                    return value;
                }
                value = (value == NONE ? 0 : value * 10) + sign - '0';
                at++;
            }
            return value;
        }

        private int signHere() {
            return at >= 0 && at < length && at < MAX_INPUT ? signs[at] : NONE;
        }
    }
}
