/** Promises 30 to 36, the boundary cases of each. */
public final class AccountsEdgesTest {
    private static final Checks CHECKS = new Checks();
    private static final int SOFT = 0;
    private static final int FIRM = 1;
    private static final int HARD = 2;

    public static void main(String[] args) {
        accountsAtTheirMost();
        accountsStepByStep();
        accountOfBusyTongs();
        accountsAreUndone();
        isWellAfterEverything();
        meanDampnessOfNone();
        meanDampnessFrom0To99();
        brokenOfNone();
        brokenFrom0To1();
        undoOfNone();
        undoAtTheEdges();
        undoLeavesTheSnapshot();
        saveReturnsTheTowers();
        saveInPlaceOfAnEarlierOne();
        restoreWithoutASnapshot();
        restoreAgainAndAgain();
        restoreBothWays();
        restoreAllThereIs();
        CHECKS.end();
    }

    private static void accountIs(String what, SugarTowers hotel, int number, int due) {
        CHECKS.due("30: " + what, due, () -> hotel.account(number));
    }

    /** 30: 6 towers, 4 tongs, all of them busy, 6 banquets, 60 characters, 8 changes. */
    private static void accountsAtTheirMost() {
        SugarTowers hotel = Hotels.stocked(6);
        for (int i = 0; i < 3; i++) {
            hotel.tongs(10);
        }
        for (int i = 0; i < 4; i++) {
            hotel.lay(i, i, SOFT, 1);
        }
        for (int i = 0; i < 6; i++) {
            hotel.banquet(90, 1, 1);
        }
        Checks.type(hotel, "x".repeat(60));
        accountIs("towers", hotel, 2, 6);
        accountIs("tongs", hotel, 3, 4);
        accountIs("busy ones", hotel, 4, 4);
        accountIs("banquets", hotel, 5, 6);
        accountIs("characters", hotel, 15, 60);
        accountIs("changes", hotel, 16, 8);
        accountIs("courses", hotel, 13, 4);
        accountIs("cubes in towers", hotel, 10, 4);
    }

    /** 30: Each account after each step that moves it. */
    private static void accountsStepByStep() {
        SugarTowers hotel = Hotels.stocked(2);
        accountIs("bought", hotel, 8, 60);
        accountIs("in the stock", hotel, 9, 60);
        accountIs("no coins", hotel, 1, 0);
        Hotels.lay(hotel, 0, HARD, 4);
        Hotels.lay(hotel, 1, SOFT, 3);
        Hotels.lay(hotel, 1, FIRM, 2);
        accountIs("in the stock by then", hotel, 9, 51);
        accountIs("in towers", hotel, 10, 9);
        accountIs("courses", hotel, 13, 3);
        hotel.take(1);
        accountIs("in the stock as one is taken off", hotel, 9, 53);
        accountIs("in towers as one is taken off", hotel, 10, 7);
        accountIs("courses as one is taken off", hotel, 13, 2);
        Hotels.layOnes(hotel, 1, FIRM);
        Hotels.dampen(hotel, 40);
        accountIs("broken", hotel, 11, 4);
        accountIs("in towers after that", hotel, 10, 4);
        accountIs("courses after that", hotel, 13, 1);
        accountIs("the stock after that", hotel, 9, 52);
        int hour = hotel.account(0);
        hotel.banquet(hour + 1, 1, 150);
        hotel.banquet(hour + 1, 1, 20);
        hotel.show(0, 0);
        accountIs("waiting", hotel, 5, 2);
        hotel.pass(1);
        accountIs("the hour", hotel, 0, hour + 1);
        accountIs("waiting no more", hotel, 5, 0);
        accountIs("held", hotel, 6, 1);
        accountIs("spoilt", hotel, 7, 1);
        accountIs("coins", hotel, 1, 150);
        accountIs("coins of banquets", hotel, 14, 150);
        accountIs("eaten", hotel, 12, 4);
        accountIs("no cubes in towers", hotel, 10, 0);
        accountIs("no courses", hotel, 13, 0);
        hotel.buy(FIRM, 75);
        accountIs("coins are spent", hotel, 1, 0);
        accountIs("coins of banquets stay", hotel, 14, 150);
        accountIs("bought in all", hotel, 8, 135);
        CHECKS.due("31: all is well", true, hotel::isWell);
    }

    /** 30: Those that are busy, until their last hour. */
    private static void accountOfBusyTongs() {
        SugarTowers hotel = Hotels.stocked(3);
        hotel.tongs(10);
        hotel.tongs(10);
        int[] cubes = {1, 5, 10};
        for (int i = 0; i < 3; i++) {
            hotel.lay(i, i, SOFT, cubes[i]);
        }
        for (int due : new int[] {3, 2, 1, 0, 0}) {
            accountIs("busy", hotel, 4, due);
            hotel.pass(1);
        }
    }

    /** 30: What is undone does not count; the characters do. */
    private static void accountsAreUndone() {
        SugarTowers hotel = Hotels.stocked(1);
        hotel.append('x');
        hotel.lay(0, 0, SOFT, 5);
        hotel.undo();
        hotel.undo();
        accountIs("bought", hotel, 8, 50);
        accountIs("in the stock", hotel, 9, 50);
        accountIs("coins", hotel, 1, 30);
        accountIs("courses", hotel, 13, 0);
        accountIs("busy", hotel, 4, 0);
        accountIs("characters", hotel, 15, 1);
        accountIs("changes", hotel, 16, 4);
    }

    /** 31: After cubes were bought, laid, taken off, broken in three ways, eaten and undone. */
    private static void isWellAfterEverything() {
        SugarTowers hotel = Hotels.rich(4);
        CHECKS.due("31: after banquets", true, hotel::isWell);
        hotel.tower();
        Hotels.buy(hotel, FIRM, 20);
        Hotels.lay(hotel, 0, FIRM, 20);
        Hotels.buy(hotel, FIRM, 290);
        hotel.take(0);
        CHECKS.due("31: after cubes broke as they were taken off", true, hotel::isWell);
        Hotels.lay(hotel, 0, FIRM, 2);
        Hotels.lay(hotel, 0, FIRM, 2);
        Hotels.layOnes(hotel, 1, FIRM);
        CHECKS.due("31: as wide as the one below", true, hotel::isWell);
        Hotels.dampen(hotel, 80);
        CHECKS.due("31: after courses broke", 2, () -> hotel.towerOf(0, 4));
        CHECKS.due("31: still", true, hotel::isWell);
        Checks.read(hotel, "b2+9;l0/0:2*4;h1;t0;t0");
        CHECKS.due("31: after a refused text", true, hotel::isWell);
        Checks.read(hotel, "b2+9;l0/0:2*4;h1;t0");
        CHECKS.due("31: after a text", true, hotel::isWell);
        hotel.undo();
        CHECKS.due("31: after undo", true, hotel::isWell);
        hotel.save();
        hotel.buy(SOFT, 1);
        hotel.restore();
        CHECKS.due("31: after restore", true, hotel::isWell);
    }

    /** 32: Throws if there are none, also after the only one was undone. */
    private static void meanDampnessOfNone() {
        SugarTowers hotel = new SugarTowers();
        CHECKS.dueThrow("32: none", ArithmeticException.class, hotel::meanDampness);
        hotel.tower();
        CHECKS.due("32: one that is dry", 0.0, hotel::meanDampness);
        hotel.undo();
        CHECKS.dueThrow("32: undone", ArithmeticException.class, hotel::meanDampness);
    }

    /** 32: From 0 to 99; the sum divided by their number, both as doubles. */
    private static void meanDampnessFrom0To99() {
        SugarTowers hotel = new SugarTowers();
        hotel.tower();
        Hotels.dampen(hotel, 99);
        CHECKS.due("32: 99", 99.0, hotel::meanDampness);
        hotel.tower();
        CHECKS.due("32: not rounded down", 49.5, hotel::meanDampness);
        hotel.tower();
        hotel.tower();
        hotel.tower();
        hotel.tower();
        CHECKS.due("32: of six", 16.5, hotel::meanDampness);
        Hotels.passAt(hotel, 39);
        CHECKS.due("32: as doubles", 98.0 / 6.0, hotel::meanDampness);
    }

    /** 33: Throws if none were bought, also after those that were bought were undone. */
    private static void brokenOfNone() {
        SugarTowers hotel = Hotels.rich(0);
        CHECKS.dueThrow("33: none", ArithmeticException.class, hotel::broken);
        hotel.buy(HARD, 1);
        CHECKS.due("33: none broke", 0f, hotel::broken);
        hotel.undo();
        CHECKS.dueThrow("33: undone", ArithmeticException.class, hotel::broken);
    }

    /** 33: From 0 to 1; the one number divided by the other one, both as floats. */
    private static void brokenFrom0To1() {
        SugarTowers hotel = Hotels.rich(0);
        hotel.buy(SOFT, 2);
        Hotels.layOnes(hotel, 0, SOFT, SOFT);
        Hotels.dampen(hotel, 40);
        CHECKS.due("33: all of them", 1f, hotel::broken);
        hotel.buy(SOFT, 1);
        CHECKS.due("33: two of three, as floats", 2f / 3f, hotel::broken);
        hotel.buy(FIRM, 40);
        CHECKS.due("33: two of all grades", 2f / 43f, hotel::broken);
    }

    /** 34: Throws if no change can be undone. */
    private static void undoOfNone() {
        SugarTowers hotel = new SugarTowers();
        CHECKS.dueThrow("34: none", IllegalStateException.class, hotel::undo);
        Checks.answerOf(() -> hotel.take(0));
        CHECKS.dueThrow("34: an exception is none", IllegalStateException.class, hotel::undo);
        hotel.tower();
        CHECKS.due("34: one", 0, hotel::undo);
        CHECKS.dueThrow("34: none again", IllegalStateException.class, hotel::undo);
    }

    /** 34: Seven, eight and nine changes. */
    private static void undoAtTheEdges() {
        int[] due = {7, 8, 8};
        for (int i = 0; i < 3; i++) {
            int changes = 7 + i;
            SugarTowers hotel = new SugarTowers();
            for (int j = 0; j < changes; j++) {
                hotel.pass(1);
            }
            CHECKS.due("34: changes " + changes, due[i], () -> hotel.account(16));
            CHECKS.due("34: one less of " + changes, due[i] - 1, hotel::undo);
            for (int j = due[i] - 1; j > 0; j--) {
                hotel.undo();
            }
            CHECKS.due("34: the hour by then, of " + changes, changes - due[i], () -> hotel.account(0));
        }
    }

    /** 34 to 36: The snapshot stays, whatever is undone. */
    private static void undoLeavesTheSnapshot() {
        SugarTowers hotel = new SugarTowers();
        hotel.tower();
        hotel.tower();
        hotel.save();
        hotel.undo();
        hotel.undo();
        CHECKS.due("34: no towers", 0, () -> hotel.account(2));
        CHECKS.due("36: two towers", 2, hotel::restore);
    }

    /** 35: Returns the towers, none to six. */
    private static void saveReturnsTheTowers() {
        SugarTowers hotel = new SugarTowers();
        for (int i = 0; i <= 6; i++) {
            CHECKS.due("35: towers", i, hotel::save);
            CHECKS.due("36: towers", i, hotel::restore);
            Checks.answerOf(hotel::tower);
        }
    }

    /** 35: In place of an earlier one. */
    private static void saveInPlaceOfAnEarlierOne() {
        SugarTowers hotel = new SugarTowers();
        hotel.buy(SOFT, 1);
        hotel.save();
        hotel.buy(SOFT, 1);
        hotel.save();
        hotel.buy(SOFT, 1);
        hotel.restore();
        CHECKS.due("35: the later one", 2, () -> hotel.stock(SOFT));
        hotel.restore();
        CHECKS.due("35: not the earlier one", 2, () -> hotel.stock(SOFT));
    }

    /** 36: Throws if there is no snapshot; nothing is forgotten then. */
    private static void restoreWithoutASnapshot() {
        SugarTowers hotel = new SugarTowers();
        hotel.tower();
        CHECKS.dueThrow("36: none", IllegalStateException.class, hotel::restore);
        CHECKS.due("36: nothing is forgotten", 1, () -> hotel.account(16));
        CHECKS.due("36: nothing is different", 1, () -> hotel.account(2));
        hotel.save();
        SugarTowers other = new SugarTowers();
        CHECKS.dueThrow("36: not that of another object", IllegalStateException.class, other::restore);
    }

    /** 36: The snapshot stays, also as what was restored is changed. */
    private static void restoreAgainAndAgain() {
        SugarTowers hotel = Hotels.stocked(1);
        Hotels.lay(hotel, 0, HARD, 3);
        hotel.banquet(90, 1, 7);
        hotel.save();
        String saved = State.ofChanges(hotel);
        for (int i = 0; i < 3; i++) {
            hotel.take(0);
            hotel.lay(0, 0, SOFT, 9);
            hotel.show(0, 0);
            hotel.humidity(2, i);
            hotel.pass(72);
            CHECKS.due("36: a tower", 1, hotel::restore);
            CHECKS.due("36: all is as it was saved", saved, () -> State.ofChanges(hotel));
        }
    }

    /** 36: Back to what was before, and to what was after. */
    private static void restoreBothWays() {
        SugarTowers hotel = new SugarTowers();
        hotel.save();
        for (int i = 0; i < 6; i++) {
            hotel.tower();
        }
        CHECKS.due("36: none", 0, hotel::restore);
        CHECKS.dueThrow("36: no tower", IndexOutOfBoundsException.class, () -> hotel.spare(0));
        CHECKS.due("36: numbers from 0", 0, hotel::tower);
        for (int i = 1; i < 6; i++) {
            hotel.tower();
        }
        hotel.save();
        for (int i = 0; i < 6; i++) {
            hotel.undo();
        }
        CHECKS.due("36: six", 6, hotel::restore);
        CHECKS.due("36: the last one", 20, () -> hotel.spare(5));
    }

    /** 36: Everything that changes can change: also the numbers of banquets, hours, humidity, what tongs laid. */
    private static void restoreAllThereIs() {
        SugarTowers hotel = Hotels.rich(2);
        hotel.buy(SOFT, 50);
        hotel.tower();
        Hotels.layOnes(hotel, 0, SOFT, SOFT);
        Hotels.dampen(hotel, 40);
        Hotels.layOnes(hotel, 1, SOFT);
        hotel.lay(0, 0, SOFT, 10);
        int number = hotel.banquet(90, 3, 8);
        hotel.show(number, 1);
        hotel.humidity(3, 91);
        String saved = State.ofChanges(hotel);
        hotel.save();
        Checks.read(hotel, "t0;s" + number + "@0;h72;b0+7;l1/0:0*1;h72");
        hotel.humidity(3, 17);
        hotel.tower();
        hotel.tongs(3);
        hotel.banquet(900, 1, 1);
        CHECKS.due("36: all is different", false, () -> saved.equals(State.ofChanges(hotel)));
        CHECKS.due("36: two towers", 2, hotel::restore);
        CHECKS.due("36: all is as it was saved", saved, () -> State.ofChanges(hotel));
        CHECKS.due("36: the number of the next banquet", number + 1, () -> hotel.banquet(900, 1, 1));
        CHECKS.due("36: the number of the next tongs", 1, () -> hotel.tongs(3));
    }
}
