/** Runs of 512 calls, always the same ones, whose answers are compared with those of the model. */
public final class RandomRunsTest {
    private static final int RUNS = 3000;
    private static final int CALLS = 512;
    private static final String[] ORDERS = {"b0+9", "b1+05", "b2+1", "l0/0:0*5", "l1/1:1*3", "l0/2:2*01", "l2/0:0*12",
        "t0", "t1", "s0@0", "s01@1", "s2@2", "h1", "h02", "h7", "h0", "h72", "b0+0", "t9", "l0/0:0*1"};
    private static final String SIGNS = "blsth0123456789+/:*@;x ";

    private final Checks checks;
    private final SugarTowers hotel = new SugarTowers();
    private final Model model = new Model();
    private final boolean isGenerous;
    private long seed;
    private int calls;

    private RandomRunsTest(Checks checks, long seed) {
        this.checks = checks;
        this.seed = seed * 7919 + 17;
        this.isGenerous = seed % 3 != 0;
    }

    public static void main(String[] args) {
        Checks checks = new Checks();
        for (int run = 0; run < RUNS; run++) {
            RandomRunsTest one = new RandomRunsTest(checks, run);
            while (one.calls < CALLS) {
                one.call("run " + run + ", call " + one.calls + ": ");
            }
        }
        checks.end();
    }

    private int below(int bound) {
        seed = seed * 6364136223846793005L + 1442695040888963407L;
        return (int) ((seed >>> 33) % bound);
    }

    /** A number mostly from least to most, sometimes beside them or far away. */
    private int about(int least, int most) {
        int kind = below(40);
        if (kind == 0) {
            return least - 1;
        }
        if (kind == 1) {
            return most + 1;
        }
        if (kind == 2) {
            return below(2) == 0 ? Integer.MIN_VALUE : Integer.MAX_VALUE;
        }
        return kind < 6 ? (kind < 4 ? least : most) : least + below(most - least + 1);
    }

    private int aTower() {
        return about(0, Math.max(0, model.account(2) - 1));
    }

    private int someTongs() {
        return about(0, Math.max(0, model.account(3) - 1));
    }

    private int aBanquet() {
        return below(2) == 0 && model.account(5) > 0 ? model.next() : about(0, 12);
    }

    private void same(String what, Checks.Call due, Checks.Call got) {
        if (calls == CALLS) {
            return;
        }
        calls++;
        checks.due(what, Checks.answerOf(due), got);
    }

    private void call(String at) {
        int kind = below(100);
        if (kind < 55) {
            change(at);
        } else if (kind < 90) {
            ask(at);
        } else if (kind < 97) {
            text(at);
        } else {
            goBack(at);
        }
    }

    private void change(String at) {
        int a = aTower();
        int b = someTongs();
        switch (below(12)) {
            case 0 -> {
                int hour = about(0, 23);
                int percent = below(2) == 0 ? about(0, 99) : about(60, 99);
                same(at + "humidity", () -> model.humidity(hour, percent), () -> hotel.humidity(hour, percent));
            }
            case 1, 2 -> {
                int grade = about(0, 2);
                int many = isGenerous ? about(1, 20) : about(1, 99);
                same(at + "buy", () -> model.buy(grade, many), () -> hotel.buy(grade, many));
            }
            case 3 -> {
                int reach = below(3) == 0 ? 10 : about(1, 10);
                same(at + "tongs", () -> model.tongs(reach), () -> hotel.tongs(reach));
            }
            case 4 -> same(at + "tower", model::tower, hotel::tower);
            case 5, 6, 7 -> {
                int grade = about(0, 2);
                int cubes = below(2) == 0 ? about(1, 3) : about(1, 20);
                same(at + "lay", () -> model.lay(a, b, grade, cubes), () -> hotel.lay(a, b, grade, cubes));
            }
            case 8 -> same(at + "take", () -> model.take(a), () -> hotel.take(a));
            case 9 -> {
                int hour = model.account(0) + below(12);
                int courses = below(2) == 0 ? 1 : about(1, 10);
                int coins = about(1, 200);
                same(at + "banquet", () -> model.banquet(hour, courses, coins),
                        () -> hotel.banquet(hour, courses, coins));
            }
            case 10 -> {
                int banquet = aBanquet();
                if (below(6) == 0) {
                    same(at + "cancel", () -> model.cancel(banquet), () -> hotel.cancel(banquet));
                } else {
                    same(at + "show", () -> model.show(banquet, a), () -> hotel.show(banquet, a));
                }
            }
            default -> {
                int hours = below(8) == 0 ? about(1, 72) : about(1, 3);
                same(at + "pass", () -> model.pass(hours), () -> hotel.pass(hours));
            }
        }
    }

    private void ask(String at) {
        int a = aTower();
        int b = someTongs();
        int banquet = aBanquet();
        int course = about(0, 9);
        int what = about(0, 4);
        int grade = about(0, 2);
        int cubes = about(1, 20);
        int percent = about(0, 99);
        int account = about(0, 16);
        boolean isDetail = below(2) == 0;
        switch (below(20)) {
            case 0 -> same(at + "humidityIn", () -> model.humidityIn(percent), () -> hotel.humidityIn(percent));
            case 1 -> same(at + "stock", () -> model.stock(grade), () -> hotel.stock(grade));
            case 2 -> same(at + "tongsOf", () -> model.tongsOf(b, what), () -> hotel.tongsOf(b, what));
            case 3 -> same(at + "tongsFor", () -> model.tongsFor(course), () -> hotel.tongsFor(course));
            case 4 -> same(at + "why", () -> model.why(a, b, grade, cubes), () -> hotel.why(a, b, grade, cubes));
            case 5 -> same(at + "courseOf", () -> model.courseOf(a, course % 4, what),
                    () -> hotel.courseOf(a, course % 4, what));
            case 6 -> same(at + "bearsAgain", () -> model.bearsAgain(a, course % 4),
                    () -> hotel.bearsAgain(a, course % 4));
            case 7 -> same(at + "towerOf", () -> model.towerOf(a, what), () -> hotel.towerOf(a, what));
            case 8 -> same(at + "spare", () -> model.spare(a), () -> hotel.spare(a));
            case 9 -> same(at + "sign", () -> model.sign(a), () -> hotel.sign(a));
            case 10 -> same(at + "stands", () -> model.stands(a, percent), () -> hotel.stands(a, percent));
            case 11 -> same(at + "breaksIn", () -> model.breaksIn(a), () -> hotel.breaksIn(a));
            case 12 -> same(at + "banquetOf", () -> model.banquetOf(banquet, what),
                    () -> hotel.banquetOf(banquet, what));
            case 13 -> same(at + "next", model::next, hotel::next);
            case 14 -> same(at + "errorPosition", model::errorPosition, hotel::errorPosition);
            case 15 -> same(at + "refusal", () -> model.refusal(isDetail), () -> hotel.refusal(isDetail));
            case 16 -> same(at + "isWell", model::isWell, hotel::isWell);
            case 17 -> same(at + "meanDampness", model::meanDampness, hotel::meanDampness);
            case 18 -> same(at + "broken", model::broken, hotel::broken);
            default -> same(at + "account", () -> model.account(account), () -> hotel.account(account));
        }
    }

    private void text(String at) {
        StringBuilder text = new StringBuilder();
        int orders = 1 + below(5);
        for (int i = 0; i < orders; i++) {
            text.append(i == 0 ? "" : ";").append(ORDERS[below(ORDERS.length)]);
        }
        if (below(3) == 0) {
            text.setCharAt(below(text.length()), SIGNS.charAt(below(SIGNS.length())));
        }
        if (below(8) == 0) {
            text.setLength(below(text.length()));
        }
        for (int i = 0; i < text.length(); i++) {
            char c = text.charAt(i);
            same(at + "append", () -> model.append(c), () -> hotel.append(c));
        }
        if (below(10) != 0) {
            same(at + "read " + text, model::read, hotel::read);
        }
    }

    private void goBack(String at) {
        switch (below(6)) {
            case 0 -> same(at + "save", model::save, hotel::save);
            case 1 -> same(at + "restore", model::restore, hotel::restore);
            default -> same(at + "undo", model::undo, hotel::undo);
        }
    }
}
