import java.util.List;
import java.util.function.Consumer;

/** Promises 30 to 36: accounts, undo and snapshot. */
public final class AccountsTest {
    private static final Checks CHECKS = new Checks();

    public static void main(String[] args) {
        account();
        isWell();
        meanDampness();
        broken();
        undo();
        undoEachChange();
        save();
        restore();
        CHECKS.end();
    }

    /** Hour 9; tower 0 with 3 soft cubes, tower 1 broken, tower 2 eaten; tongs 0 busy; dampness 12. */
    private static SugarTowers usedHotel() {
        SugarTowers hotel = new SugarTowers();
        hotel.buy(0, 30);
        hotel.buy(1, 5);
        hotel.tower();
        hotel.tower();
        hotel.tower();
        hotel.tongs(10);
        hotel.tongs(2);
        for (int i = 0; i < 5; i++) {
            hotel.lay(1, 0, 0, 1);
            hotel.pass(1);
        }
        hotel.lay(2, 0, 1, 4);
        hotel.banquet(6, 1, 33);
        hotel.banquet(6, 1, 5);
        hotel.banquet(60, 1, 5);
        hotel.show(0, 2);
        hotel.pass(1);
        for (int hour = 6; hour < 9; hour++) {
            hotel.humidity(hour, 99);
        }
        hotel.pass(3);
        hotel.lay(0, 0, 0, 3);
        hotel.append('b');
        hotel.append('0');
        return hotel;
    }

    private static void account() {
        SugarTowers hotel = usedHotel();
        int[] due = {9, 93, 3, 2, 1, 1, 1, 1, 35, 23, 3, 5, 4, 1, 33, 2, 8};
        for (int i = 0; i < due.length; i++) {
            int what = i;
            CHECKS.due("30: account " + i, due[i], () -> hotel.account(what));
        }
        CHECKS.dueThrow("30: what 17", IllegalArgumentException.class, () -> hotel.account(17));
        CHECKS.dueThrow("30: what -1", IllegalArgumentException.class, () -> hotel.account(-1));
    }

    private static void isWell() {
        CHECKS.due("31: new", true, () -> new SugarTowers().isWell());
        CHECKS.due("31: used", true, () -> usedHotel().isWell());
    }

    private static void meanDampness() {
        CHECKS.dueThrow("32: no towers", ArithmeticException.class, () -> new SugarTowers().meanDampness());
        SugarTowers hotel = new SugarTowers();
        hotel.tower();
        hotel.humidity(0, 70);
        hotel.pass(1);
        CHECKS.due("32: of one", 2.0, hotel::meanDampness);
        hotel.tower();
        hotel.tower();
        CHECKS.due("32: of three", 2.0 / 3.0, hotel::meanDampness);
    }

    private static void broken() {
        CHECKS.dueThrow("33: none bought", ArithmeticException.class, () -> new SugarTowers().broken());
        SugarTowers hotel = new SugarTowers();
        hotel.buy(0, 3);
        CHECKS.due("33: none broke", 0f, hotel::broken);
        CHECKS.due("33: share", 5f / 35f, () -> usedHotel().broken());
    }

    private static void undo() {
        SugarTowers hotel = new SugarTowers();
        CHECKS.dueThrow("34: none", IllegalStateException.class, hotel::undo);
        for (int i = 1; i <= 10; i++) {
            hotel.buy(0, 1);
        }
        CHECKS.due("34: the latest 8", 8, () -> hotel.account(16));
        for (int left = 7; left >= 0; left--) {
            CHECKS.due("34: left", left, hotel::undo);
        }
        CHECKS.due("34: two stay", 2, () -> hotel.stock(0));
        CHECKS.dueThrow("34: no more", IllegalStateException.class, hotel::undo);
        CHECKS.due("34: coins", 98, () -> hotel.account(1));
        hotel.buy(0, 1);
        hotel.buy(1, 1);
        CHECKS.due("34: the latest one", 1, hotel::undo);
        CHECKS.due("34: soft stays", 3, () -> hotel.stock(0));
        CHECKS.due("34: firm does not", 0, () -> hotel.stock(1));
        hotel.append('h');
        hotel.append('1');
        hotel.read();
        CHECKS.due("34: read is a change", 1, hotel::undo);
        CHECKS.due("34: the input stays", 0, () -> hotel.account(15));
        CHECKS.due("34: the hour does not", 0, () -> hotel.account(0));
    }

    private static void undoEachChange() {
        List<Consumer<SugarTowers>> changes = List.of(h -> h.humidity(9, 3), h -> h.buy(2, 4), SugarTowers::tower,
            h -> h.tongs(4), h -> h.lay(0, 1, 0, 2), h -> h.take(0), h -> h.banquet(70, 3, 7), h -> h.show(2, 1),
            h -> h.cancel(2), h -> h.pass(72), h -> Checks.read(h, "b0+2;h9"));
        for (int i = 0; i < changes.size(); i++) {
            SugarTowers hotel = usedHotel();
            Checks.answerOf(hotel::read);
            hotel.save();
            hotel.restore();
            String before = State.ofChanges(hotel);
            changes.get(i).accept(hotel);
            CHECKS.due("34: counts, change " + i, 1, () -> hotel.account(16));
            CHECKS.due("34: is undone, change " + i, 0, hotel::undo);
            CHECKS.due("34: all is as before, change " + i, before, () -> State.ofChanges(hotel));
        }
        changesWithoutADifference();
        refusedChangesDoNotCount();
    }

    private static void changesWithoutADifference() {
        SugarTowers hotel = usedHotel();
        hotel.show(2, 0);
        hotel.save();
        hotel.restore();
        hotel.humidity(0, 45);
        CHECKS.due("34: the same humidity counts", 1, () -> hotel.account(16));
        hotel.show(2, 0);
        CHECKS.due("34: the same tower counts", 2, () -> hotel.account(16));
    }

    private static void refusedChangesDoNotCount() {
        SugarTowers hotel = new SugarTowers();
        hotel.tower();
        Checks.answerOf(() -> hotel.take(0));
        Checks.answerOf(() -> hotel.buy(2, 99));
        Checks.answerOf(() -> hotel.pass(0));
        Checks.answerOf(() -> hotel.banquet(0, 1, 1));
        Checks.read(hotel, "t0");
        Checks.read(hotel, "t");
        CHECKS.due("34: only the tower", 1, () -> hotel.account(16));
    }

    private static void save() {
        SugarTowers hotel = new SugarTowers();
        CHECKS.due("35: no towers", 0, hotel::save);
        hotel.tower();
        hotel.tower();
        CHECKS.due("35: towers", 2, hotel::save);
        CHECKS.due("35: no change", 2, () -> hotel.account(16));
        hotel.tower();
        CHECKS.due("35: in place of the earlier one", 2, hotel::restore);
    }

    private static void restore() {
        CHECKS.dueThrow("36: no snapshot", IllegalStateException.class, () -> new SugarTowers().restore());
        SugarTowers hotel = usedHotel();
        String before = State.ofChanges(hotel);
        hotel.save();
        hotel.tower();
        hotel.humidity(5, 5);
        hotel.pass(72);
        hotel.append('?');
        CHECKS.due("36: towers of the snapshot", 3, hotel::restore);
        CHECKS.due("36: all as it was", before, () -> State.ofChanges(hotel));
        CHECKS.due("36: nothing can be undone", 0, () -> hotel.account(16));
        CHECKS.dueThrow("36: undo throws", IllegalStateException.class, hotel::undo);
        CHECKS.due("36: the input stays", 3, () -> hotel.account(15));
        restoreAgain();
    }

    private static void restoreAgain() {
        SugarTowers hotel = usedHotel();
        String before = State.ofChanges(hotel);
        hotel.save();
        hotel.restore();
        hotel.take(0);
        hotel.pass(5);
        CHECKS.due("36: again, the snapshot stays", 3, hotel::restore);
        hotel.buy(0, 1);
        CHECKS.due("36: undo after it", 0, hotel::undo);
        CHECKS.due("36: is as in the snapshot", before, () -> State.ofChanges(hotel));
    }
}
