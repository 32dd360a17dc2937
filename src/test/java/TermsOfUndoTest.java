import java.util.NoSuchElementException;

/** 'Terms': undo and exceptions; each sentence with its boundary cases. */
public final class TermsOfUndoTest {
    private static final Checks CHECKS = new Checks();
    private static final Class<? extends RuntimeException> INDEX = IndexOutOfBoundsException.class;
    private static final Class<? extends RuntimeException> ARGUMENT = IllegalArgumentException.class;
    private static final Class<? extends RuntimeException> REFUSED = UnsupportedOperationException.class;
    private static final Class<? extends RuntimeException> NO_ELEMENT = NoSuchElementException.class;
    private static final Class<? extends RuntimeException> STATE = IllegalStateException.class;

    /** A call on a hotel that is made for it. */
    private interface Act {
        Object on(SugarTowers hotel);
    }

    public static void main(String[] args) {
        eachChange();
        alsoIfNothingIsDifferent();
        noOtherCallIsAChange();
        latestEight();
        undoAfterUndo();
        undoOfAnHour();
        restoreForgetsAll();
        stateStaysByAnException();
        stateStaysByARefusal();
        inputStaysIfFull();
        firstExceptionOfSeveral();
        inputIsNeitherUndoneNorSaved();
        errorPositionIsNeitherUndoneNorSaved();
        reasonIsNeitherUndoneNorSaved();
        CHECKS.end();
    }

    /**
     * The hour 17 with 6 towers: 0 with 10 courses, 1 with one of 5 cubes, 2 that can bear no more, others without
     * courses; 4 tongs, 0 of them busy, 1 of reach 1; 6 banquets; no coins; a reason, an error and an input. Two
     * changes can be undone, less than 8, so that one more would be seen.
     */
    private static SugarTowers fullHotel() {
        SugarTowers hotel = Hotels.stocked(6);
        hotel.tongs(1);
        hotel.tongs(10);
        hotel.tongs(4);
        Hotels.layOnes(hotel, 0, 2, 1, 1, 1, 1, 1, 1, 1, 1, 1);
        Hotels.lay(hotel, 1, 0, 5);
        Hotels.layOnes(hotel, 2, 0, 2, 2, 2, 2);
        for (int i = 0; i < 6; i++) {
            hotel.banquet(30 + i, 2, 9);
        }
        hotel.show(1, 0);
        hotel.lay(3, 0, 0, 10);
        hotel.take(3);
        for (int i = 0; i < 6; i++) {
            hotel.humidity(0, 45);
        }
        for (int i = 0; i < 6; i++) {
            hotel.undo();
        }
        Checks.read(hotel, "b0?");
        Checks.answerOf(() -> hotel.take(5));
        Checks.type(hotel, "h1;");
        return hotel;
    }

    private static final String[] CHANGES = {"humidity", "buy", "tower", "tongs", "lay", "take", "banquet", "show",
        "cancel", "pass", "read"};

    private static Object change(SugarTowers hotel, String name) {
        switch (name) {
            case "humidity": return hotel.humidity(23, 0);
            case "buy": return hotel.buy(2, 1);
            case "tower": return hotel.tower();
            case "tongs": return hotel.tongs(3);
            case "lay": return hotel.lay(0, 0, 0, 2);
            case "take": return hotel.take(1);
            case "banquet": return hotel.banquet(50, 1, 1);
            case "show": return hotel.show(2, 1);
            case "cancel": return hotel.cancel(2);
            case "pass": return hotel.pass(1);
            default:
                Checks.type(hotel, "h1");
                return hotel.read();
        }
    }

    /** The hour 4 with towers 0 and 1, the upper one with a course, banquet 2 that waits, and all accounts above 0. */
    private static SugarTowers smallHotel() {
        SugarTowers hotel = Hotels.rich(2);
        hotel.tower();
        hotel.buy(0, 20);
        Hotels.layOnes(hotel, 1, 0);
        hotel.banquet(50, 2, 9);
        hotel.banquet(4, 2, 9);
        hotel.pass(1);
        hotel.save();
        hotel.restore();
        return hotel;
    }

    /** The changes are the successful calls of humidity, buy, .. and read. */
    private static void eachChange() {
        for (String name : CHANGES) {
            SugarTowers hotel = smallHotel();
            String before = State.ofChanges(hotel);
            change(hotel, name);
            CHECKS.due(name + " is a change", 1, () -> hotel.account(16));
            CHECKS.due(name + " makes a difference", false, () -> before.equals(State.ofChanges(hotel)));
            CHECKS.due(name + " is undone", 0, hotel::undo);
            CHECKS.due("all is as before " + name, before, () -> State.ofChanges(hotel));
        }
        SugarTowers hotel = smallHotel();
        hotel.banquet(60, 1, 1);
        hotel.undo();
        CHECKS.due("the numbers of banquets, too", 4, () -> hotel.banquet(60, 1, 1));
    }

    /** Also if nothing is different then. */
    private static void alsoIfNothingIsDifferent() {
        SugarTowers hotel = smallHotel();
        hotel.show(2, 1);
        String before = State.ofChanges(hotel);
        hotel.humidity(5, 45);
        CHECKS.due("the same humidity", 2, () -> hotel.account(16));
        hotel.show(2, 1);
        CHECKS.due("the same tower", 3, () -> hotel.account(16));
        Checks.read(hotel, "s2@1;s2@1");
        CHECKS.due("the same tower in a text", 4, () -> hotel.account(16));
        CHECKS.due("nothing is different", before, () -> State.ofChanges(hotel));
        for (int left = 3; left >= 1; left--) {
            CHECKS.due("undone", left, hotel::undo);
            CHECKS.due("the tower is shown still", 1, () -> hotel.banquetOf(2, 3));
        }
        hotel.undo();
        CHECKS.due("no tower is shown", -1, () -> hotel.banquetOf(2, 3));
    }

    /** No other call is a change, neither one that asks, nor one that is refused, nor append, undo or save. */
    private static void noOtherCallIsAChange() {
        SugarTowers hotel = smallHotel();
        hotel.tower();
        Act[] asks = {h -> h.humidityIn(3), h -> h.stock(0), h -> h.tongsOf(0, 0), h -> h.tongsFor(0),
            h -> h.why(0, 0, 0, 1), h -> h.why(0, 0, 2, 20), h -> h.courseOf(1, 0, 3), h -> h.bearsAgain(1, 0),
            h -> h.towerOf(1, 1), h -> h.spare(1), h -> h.sign(1), h -> h.stands(1, 99), h -> h.breaksIn(1),
            h -> h.banquetOf(2, 4), h -> h.next(), h -> h.append('t'), h -> h.read(), h -> h.errorPosition(),
            h -> h.take(0), h -> h.refusal(true), h -> h.isWell(), h -> h.meanDampness(), h -> h.broken(),
            h -> h.save(), h -> h.buy(0, 0), h -> h.pass(73), h -> Checks.read(h, "t0"), h -> Checks.read(h, "t9"),
            h -> Checks.read(h, "t")};
        String before = State.ofChanges(hotel);
        for (int i = 0; i < asks.length; i++) {
            Act ask = asks[i];
            Checks.answerOf(() -> ask.on(hotel));
            CHECKS.due("no change by call " + i, 1, () -> hotel.account(16));
        }
        CHECKS.due("nothing is different", before, () -> State.ofChanges(hotel));
        hotel.undo();
        CHECKS.due("undo is none", 0, () -> hotel.account(16));
    }

    /** The latest 8 can be undone. */
    private static void latestEight() {
        for (int i = 1; i <= 25; i++) {
            int changes = i;
            int most = Math.min(8, changes);
            SugarTowers hotel = new SugarTowers();
            for (int j = 0; j < changes; j++) {
                hotel.buy(0, 1);
            }
            CHECKS.due("can be undone of " + i, most, () -> hotel.account(16));
            for (int j = most - 1; j >= 0; j--) {
                int left = j;
                CHECKS.due("can still be undone of " + i, left, hotel::undo);
                CHECKS.due("cubes by then of " + i, changes - most + left, () -> hotel.stock(0));
            }
            CHECKS.dueThrow("no more of " + i, STATE, hotel::undo);
            CHECKS.due("the earlier ones stay of " + i, changes - most, () -> hotel.stock(0));
        }
    }

    /** What was undone is forgotten; changes after it are undone one by one, the latest first. */
    private static void undoAfterUndo() {
        SugarTowers hotel = new SugarTowers();
        for (int i = 0; i < 12; i++) {
            hotel.buy(0, 1);
        }
        for (int i = 0; i < 5; i++) {
            hotel.undo();
        }
        CHECKS.due("7 of 12", 7, () -> hotel.stock(0));
        for (int i = 0; i < 4; i++) {
            hotel.buy(1, 1);
        }
        CHECKS.due("3 and 4 can be undone", 7, () -> hotel.account(16));
        for (int i = 0; i < 3; i++) {
            hotel.buy(2, 1);
        }
        CHECKS.due("8 at most", 8, () -> hotel.account(16));
        int[][] due = {{7, 4, 2}, {7, 4, 1}, {7, 4, 0}, {7, 3, 0}, {7, 2, 0}, {7, 1, 0}, {7, 0, 0}, {6, 0, 0}};
        for (int i = 0; i < due.length; i++) {
            hotel.undo();
            for (int j = 0; j < 3; j++) {
                int grade = j;
                CHECKS.due("after undo " + i + ", grade " + j, due[i][j], () -> hotel.stock(grade));
            }
        }
        CHECKS.dueThrow("no more", STATE, hotel::undo);
    }

    /** An hour in which a tower breaks and a banquet is held and another one spoilt is undone as a whole. */
    private static void undoOfAnHour() {
        SugarTowers hotel = Hotels.stocked(3);
        Hotels.layOnes(hotel, 0, 0, 2, 2, 2, 2);
        Hotels.layOnes(hotel, 1, 2, 2);
        Hotels.dampen(hotel, 9);
        int hour = hotel.account(0);
        hotel.banquet(hour + 1, 2, 30);
        hotel.banquet(hour + 1, 1, 40);
        hotel.banquet(hour + 2, 1, 50);
        hotel.show(0, 1);
        hotel.lay(2, 0, 1, 7);
        hotel.humidity(hour % 24, 99);
        String before = State.ofChanges(hotel);
        CHECKS.due("five break", 5, () -> hotel.pass(1));
        CHECKS.due("held", 1, () -> hotel.account(6));
        CHECKS.due("spoilt", 1, () -> hotel.account(7));
        hotel.undo();
        CHECKS.due("all is as before", before, () -> State.ofChanges(hotel));
        CHECKS.due("it is all the same again", 5, () -> hotel.pass(1));
        CHECKS.due("held again", 30, () -> hotel.account(14));
    }

    /** Restore forgets all. */
    private static void restoreForgetsAll() {
        SugarTowers hotel = new SugarTowers();
        hotel.tower();
        hotel.save();
        CHECKS.due("save forgets none", 1, () -> hotel.account(16));
        hotel.tower();
        hotel.restore();
        CHECKS.due("none can be undone", 0, () -> hotel.account(16));
        CHECKS.dueThrow("neither those before save nor those after it", STATE, hotel::undo);
        CHECKS.due("the tower before save stays", 1, () -> hotel.account(2));
        hotel.tower();
        CHECKS.due("a later one can be", 0, hotel::undo);
        CHECKS.dueThrow("but not what restore did", STATE, hotel::undo);
    }

    private static void stays(String what, Class<? extends RuntimeException> due, Act act) {
        SugarTowers hotel = fullHotel();
        String before = State.of(hotel);
        CHECKS.dueThrow(what, due, () -> act.on(hotel));
        CHECKS.due("all stays by " + what, before, () -> State.of(hotel));
        CHECKS.due("the input stays by " + what, 2, () -> Checks.read(hotel, "h2"));
        hotel.undo();
        undoneIsTheTake(what, hotel);
    }

    /** The latest change of the full hotel is the one that is undone. */
    private static void undoneIsTheTake(String what, SugarTowers hotel) {
        CHECKS.due("two changes in spite of " + what, 2, () -> hotel.account(16));
        CHECKS.due("no course yet in spite of " + what, 0, () -> hotel.towerOf(3, 0));
        CHECKS.due("the take is undone in spite of " + what, 1, hotel::undo);
        CHECKS.due("the course is there again in spite of " + what, 1, () -> hotel.towerOf(3, 0));
    }

    /** A method that throws an exception leaves the state unchanged. */
    private static void stateStaysByAnException() {
        stays("humidity, hour 24", INDEX, h -> h.humidity(24, 3));
        stays("humidity, 100", ARGUMENT, h -> h.humidity(3, 100));
        stays("humidityIn", ARGUMENT, h -> h.humidityIn(100));
        stays("buy, grade", ARGUMENT, h -> h.buy(3, 1));
        stays("buy, number", ARGUMENT, h -> h.buy(0, 0));
        stays("stock", ARGUMENT, h -> h.stock(3));
        stays("tongs", ARGUMENT, h -> h.tongs(0));
        stays("tongsOf, tongs", INDEX, h -> h.tongsOf(4, 0));
        stays("tongsOf, what", ARGUMENT, h -> h.tongsOf(0, 3));
        stays("tongsFor", ARGUMENT, h -> h.tongsFor(10));
        stays("lay, tower", INDEX, h -> h.lay(6, 2, 0, 1));
        stays("lay, tongs", INDEX, h -> h.lay(5, 4, 0, 1));
        stays("lay, grade", ARGUMENT, h -> h.lay(5, 2, 3, 1));
        stays("lay, cubes", ARGUMENT, h -> h.lay(5, 2, 0, 21));
        stays("why, tower", INDEX, h -> h.why(6, 2, 0, 1));
        stays("why, tongs", INDEX, h -> h.why(5, 4, 0, 1));
        stays("why, grade", ARGUMENT, h -> h.why(5, 2, 3, 1));
        stays("why, cubes", ARGUMENT, h -> h.why(5, 2, 0, 0));
        stays("take", INDEX, h -> h.take(6));
        stays("courseOf, tower", INDEX, h -> h.courseOf(6, 0, 0));
        stays("courseOf, course", INDEX, h -> h.courseOf(1, 1, 0));
        stays("courseOf, what", ARGUMENT, h -> h.courseOf(1, 0, 4));
        stays("bearsAgain", INDEX, h -> h.bearsAgain(0, 10));
        stays("towerOf, tower", INDEX, h -> h.towerOf(6, 0));
        stays("towerOf, what", ARGUMENT, h -> h.towerOf(0, 5));
        stays("spare", INDEX, h -> h.spare(6));
        stays("sign", INDEX, h -> h.sign(6));
        stays("stands, tower", INDEX, h -> h.stands(6, 0));
        stays("stands, dampness", ARGUMENT, h -> h.stands(0, 100));
        stays("breaksIn, tower", INDEX, h -> h.breaksIn(6));
        stays("breaksIn, none", NO_ELEMENT, h -> h.breaksIn(1));
        stays("banquet", ARGUMENT, h -> h.banquet(50, 1, 201));
        stays("show, banquet", NO_ELEMENT, h -> h.show(6, 0));
        stays("show, tower", INDEX, h -> h.show(0, 6));
        stays("cancel", NO_ELEMENT, h -> h.cancel(6));
        stays("banquetOf, banquet", NO_ELEMENT, h -> h.banquetOf(6, 0));
        stays("banquetOf, what", ARGUMENT, h -> h.banquetOf(0, 5));
        stays("pass", ARGUMENT, h -> h.pass(73));
        stays("account", ARGUMENT, h -> h.account(17));
        stays("restore", STATE, h -> h.restore());
    }

    private static void staysButReason(String what, int reason, int detail, Act act) {
        SugarTowers hotel = fullHotel();
        String before = State.ofAllButReason(hotel);
        CHECKS.dueThrow(what, REFUSED, () -> act.on(hotel));
        CHECKS.due("all but the reason stays by " + what, before, () -> State.ofAllButReason(hotel));
        CHECKS.due("the reason of " + what, reason, () -> hotel.refusal(false));
        CHECKS.due("the detail of " + what, detail, () -> hotel.refusal(true));
        undoneIsTheTake(what, hotel);
    }

    /** Also if something is refused; the reason alone is kept. */
    private static void stateStaysByARefusal() {
        staysButReason("buy, 2", 2, 3, h -> h.buy(2, 1));
        staysButReason("tower, 1", 1, 6, h -> h.tower());
        staysButReason("tongs, 1", 1, 4, h -> h.tongs(1));
        staysButReason("lay, 1", 1, 10, h -> h.lay(0, 2, 0, 1));
        staysButReason("lay, 4", 4, 3, h -> h.lay(5, 0, 0, 1));
        staysButReason("lay, 5", 5, 1, h -> h.lay(1, 1, 0, 1));
        staysButReason("lay, 6", 6, 5, h -> h.lay(5, 2, 2, 6));
        staysButReason("lay, 7", 7, 5, h -> h.lay(1, 2, 0, 6));
        staysButReason("lay, 8", 8, 0, h -> h.lay(2, 2, 2, 1));
        staysButReason("take, 9", 9, 4, h -> h.take(4));
        staysButReason("banquet, 1", 1, 6, h -> h.banquet(50, 1, 1));
        SugarTowers late = Hotels.rich(3);
        String before = State.ofAllButReason(late);
        CHECKS.dueThrow("banquet, 10", REFUSED, () -> late.banquet(3, 1, 1));
        CHECKS.due("all but the reason stays by banquet, 10", before, () -> State.ofAllButReason(late));
        SugarTowers full = Hotels.rich(3);
        Hotels.buy(full, 0, 300);
        String beforeIt = State.ofAllButReason(full);
        CHECKS.dueThrow("buy, 3", REFUSED, () -> full.buy(0, 1));
        CHECKS.due("all but the reason stays by buy, 3", beforeIt, () -> State.ofAllButReason(full));
    }

    /** A full input stays as it is, too. */
    private static void inputStaysIfFull() {
        SugarTowers hotel = new SugarTowers();
        Checks.type(hotel, "h1;".repeat(19) + "h01");
        String before = State.of(hotel);
        CHECKS.dueThrow("append", STATE, () -> hotel.append(';'));
        CHECKS.dueThrow("undo", STATE, hotel::undo);
        CHECKS.due("all stays", before, () -> State.of(hotel));
        CHECKS.due("it can be read", 20, hotel::read);
    }

    private static void first(String what, Class<? extends RuntimeException> due, Act act) {
        SugarTowers hotel = fullHotel();
        CHECKS.dueThrow(what, due, () -> act.on(hotel));
    }

    /** If several exceptions apply, the one that is documented first is thrown. */
    private static void firstExceptionOfSeveral() {
        first("humidity", INDEX, h -> h.humidity(24, 100));
        first("buy", ARGUMENT, h -> h.buy(2, 100));
        first("buy, grade", ARGUMENT, h -> h.buy(3, 99));
        first("tongs", ARGUMENT, h -> h.tongs(11));
        first("tongsOf", INDEX, h -> h.tongsOf(4, 3));
        first("tongsFor", ARGUMENT, h -> h.tongsFor(10));
        first("lay, tower and grade", INDEX, h -> h.lay(6, 2, 3, 21));
        first("lay, tongs and cubes", INDEX, h -> h.lay(0, 4, 0, 0));
        first("lay, grade and 10 courses", ARGUMENT, h -> h.lay(0, 2, 3, 1));
        first("lay, cubes and 10 courses", ARGUMENT, h -> h.lay(0, 2, 0, 21));
        first("why, tower and grade", INDEX, h -> h.why(6, 2, 3, 21));
        first("why, tongs and cubes", INDEX, h -> h.why(0, 4, 0, 0));
        first("why, cubes and 10 courses", ARGUMENT, h -> h.why(0, 2, 0, 21));
        first("courseOf, tower and what", INDEX, h -> h.courseOf(6, 0, 4));
        first("courseOf, course and what", INDEX, h -> h.courseOf(0, 10, 4));
        first("towerOf", INDEX, h -> h.towerOf(6, 5));
        first("stands", INDEX, h -> h.stands(6, 100));
        first("banquet, courses and 6 that wait", ARGUMENT, h -> h.banquet(50, 11, 1));
        first("banquet, coins and an hour that is over", ARGUMENT, h -> h.banquet(0, 1, 0));
        first("banquet, hour", ARGUMENT, h -> h.banquet(-1, 1, 1));
        first("show", NO_ELEMENT, h -> h.show(6, 6));
        first("banquetOf", NO_ELEMENT, h -> h.banquetOf(6, 5));
        first("read, a refusal and an error", ARGUMENT, h -> {
            Checks.type(h, "t5;x");
            return h.read();
        });
    }

    /** The input is neither undone nor saved, and stays. */
    private static void inputIsNeitherUndoneNorSaved() {
        SugarTowers hotel = new SugarTowers();
        Checks.type(hotel, "h");
        hotel.save();
        hotel.tower();
        Checks.type(hotel, "1");
        hotel.undo();
        CHECKS.due("after undo", 2, () -> hotel.account(15));
        Checks.type(hotel, ";");
        hotel.restore();
        CHECKS.due("after restore", 3, () -> hotel.account(15));
        Checks.type(hotel, "h2");
        CHECKS.due("as it was written", 2, hotel::read);
        CHECKS.due("hours of it", 3, () -> hotel.account(0));
        hotel.undo();
        CHECKS.due("not there again as read is undone", 0, () -> hotel.account(15));
        hotel.restore();
        CHECKS.due("nor by restore", 0, () -> hotel.account(15));
    }

    /** The error position is neither undone nor saved, and stays. */
    private static void errorPositionIsNeitherUndoneNorSaved() {
        SugarTowers hotel = new SugarTowers();
        hotel.tower();
        hotel.save();
        Checks.read(hotel, "b0?");
        hotel.undo();
        CHECKS.due("after undo", 2, hotel::errorPosition);
        hotel.restore();
        CHECKS.due("after restore", 2, hotel::errorPosition);
        hotel.save();
        Checks.read(hotel, "h1");
        CHECKS.due("of the latest read", -1, hotel::errorPosition);
        hotel.undo();
        CHECKS.due("after undo of read", -1, hotel::errorPosition);
        hotel.restore();
        CHECKS.due("after restore of what was before read", -1, hotel::errorPosition);
    }

    /** The reason is neither undone nor saved, and stays. */
    private static void reasonIsNeitherUndoneNorSaved() {
        SugarTowers hotel = new SugarTowers();
        hotel.save();
        hotel.tower();
        Checks.answerOf(() -> hotel.take(0));
        hotel.undo();
        CHECKS.due("after undo", 9, () -> hotel.refusal(false));
        hotel.restore();
        CHECKS.due("after restore", 9, () -> hotel.refusal(false));
        CHECKS.due("its detail", 0, () -> hotel.refusal(true));
        hotel.save();
        Checks.answerOf(() -> hotel.buy(2, 99));
        hotel.restore();
        CHECKS.due("the latest one after restore", 2, () -> hotel.refusal(false));
        CHECKS.due("its detail, too", 197, () -> hotel.refusal(true));
        hotel.pass(1);
        hotel.buy(0, 1);
        Checks.read(hotel, "h1");
        Checks.read(hotel, "x");
        CHECKS.due("what succeeds does not end it", 2, () -> hotel.refusal(false));
    }
}
