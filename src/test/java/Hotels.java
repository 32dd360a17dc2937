/** Hotels for tests, and steps that many tests need. */
final class Hotels {
    private Hotels() {
    }

    /** A hotel with tower 0, tongs 0 of reach 10, no cubes, and 199 coins and an hour more for each banquet held. */
    static SugarTowers rich(int banquets) {
        SugarTowers hotel = new SugarTowers();
        hotel.tower();
        hotel.tongs(10);
        for (int i = 0; i < banquets; i++) {
            hotel.buy(0, 1);
            hotel.lay(0, 0, 0, 1);
            hotel.show(hotel.banquet(i + 1, 1, 200), 0);
            hotel.pass(1);
        }
        return hotel;
    }

    /** A hotel with so many towers, tongs 0 of reach 10, and 30 soft, 20 firm and 10 hard cubes; all coins are spent. */
    static SugarTowers stocked(int towers) {
        SugarTowers hotel = new SugarTowers();
        for (int i = 0; i < towers; i++) {
            hotel.tower();
        }
        hotel.tongs(10);
        hotel.buy(0, 30);
        hotel.buy(1, 20);
        hotel.buy(2, 10);
        return hotel;
    }

    static void buy(SugarTowers hotel, int grade, int many) {
        for (int left = many; left > 0; left -= 99) {
            hotel.buy(grade, Math.min(99, left));
        }
    }

    /** Lays a course with tongs 0 and waits until they are not busy. */
    static void lay(SugarTowers hotel, int tower, int grade, int cubes) {
        hotel.lay(tower, 0, grade, cubes);
        hotel.pass(cubes / 5 + 1);
    }

    /** Lays courses of one cube each. */
    static void layOnes(SugarTowers hotel, int tower, int... grades) {
        for (int grade : grades) {
            lay(hotel, tower, grade, 1);
        }
    }

    /** Makes all towers damper by so much, in as few hours as can be. */
    static void dampen(SugarTowers hotel, int more) {
        for (int left = more; left > 0; left -= 4) {
            passAt(hotel, 50 + 10 * Math.min(4, left));
        }
    }

    /** Lets an hour of that humidity go by; the humidity is as before then. Returns how many courses broke. */
    static int passAt(SugarTowers hotel, int percent) {
        int hourOfDay = hotel.account(0) % 24;
        int before = hotel.humidity(hourOfDay, percent);
        int broke = hotel.pass(1);
        hotel.humidity(hourOfDay, before);
        return broke;
    }

    static void humidityOfAllHours(SugarTowers hotel, int percent) {
        for (int hourOfDay = 0; hourOfDay < 24; hourOfDay++) {
            hotel.humidity(hourOfDay, percent);
        }
    }
}
