/** What can be observed of a hotel, as a text, so that two moments can be compared. */
final class State {
    private static final int BANQUETS_ASKED = 9;

    private State() {
    }

    /** All that changes can change. */
    static String ofChanges(SugarTowers hotel) {
        StringBuilder all = new StringBuilder();
        for (int what = 0; what < 15; what++) {
            all.append(hotel.account(what)).append(' ');
        }
        for (int hours = 0; hours < 24; hours++) {
            all.append(hotel.humidityIn(hours)).append(' ');
        }
        for (int grade = 0; grade < 3; grade++) {
            all.append(hotel.stock(grade)).append(' ');
        }
        for (int tongs = 0; tongs < hotel.account(3); tongs++) {
            for (int what = 0; what < 3; what++) {
                all.append(hotel.tongsOf(tongs, what)).append(' ');
            }
        }
        for (int tower = 0; tower < hotel.account(2); tower++) {
            addTower(all, hotel, tower);
        }
        for (int banquet = 0; banquet < BANQUETS_ASKED; banquet++) {
            for (int what = 0; what < 4; what++) {
                int asked = banquet;
                int itsWhat = what;
                all.append(Checks.answerOf(() -> hotel.banquetOf(asked, itsWhat))).append(' ');
            }
        }
        return all.toString();
    }

    private static void addTower(StringBuilder all, SugarTowers hotel, int tower) {
        for (int what = 0; what < 5; what++) {
            all.append(hotel.towerOf(tower, what)).append(' ');
        }
        for (int course = 0; course < hotel.towerOf(tower, 0); course++) {
            all.append(hotel.courseOf(tower, course, 0)).append('*').append(hotel.courseOf(tower, course, 1));
            all.append(' ');
        }
    }

    /** What no refusal changes: all that changes can change, the input's length, the changes, the error position. */
    static String ofAllButReason(SugarTowers hotel) {
        return ofChanges(hotel) + hotel.account(15) + ' ' + hotel.account(16) + ' ' + hotel.errorPosition();
    }

    /** All that can be observed. */
    static String of(SugarTowers hotel) {
        return ofAllButReason(hotel) + ' ' + Checks.answerOf(() -> hotel.refusal(false)) + ' '
                + Checks.answerOf(() -> hotel.refusal(true));
    }
}
