import java.util.ArrayDeque;
import java.util.ArrayList;
import java.util.Comparator;
import java.util.Deque;
import java.util.List;
import java.util.NoSuchElementException;
import java.util.function.IntSupplier;
import java.util.regex.Matcher;
import java.util.regex.Pattern;

/** The document written a second time, as plainly as the Java library allows, to compare answers with. */
final class Model {
    static final class Course {
        int grade;
        int cubes;
    }

    static final class Tower {
        List<Course> courses = new ArrayList<>();
        int dampness;
        int broke;

        int cubes(int from) {
            return courses.stream().skip(from).mapToInt(c -> c.cubes).sum();
        }

        int bears(int course, int damp) {
            Course c = courses.get(course);
            return c.cubes * Math.max(0, new int[] {4, 8, 15}[c.grade] - damp / 10);
        }

        int weak(int damp, int more) {
            for (int i = 0; i < courses.size(); i++) {
                if (bears(i, damp) < cubes(i + 1) + more) {
                    return i;
                }
            }
            return -1;
        }

        int lose(int from) {
            int lost = cubes(from);
            courses = new ArrayList<>(courses.subList(0, from));
            return lost;
        }
    }

    static final class Tongs {
        int reach;
        int busy;
        int laid;
    }

    static final class Banquet {
        int number;
        int hour;
        int wants;
        int coins;
        int tower = -1;
    }

    static final class State {
        int hour;
        int coins = 100;
        int[] humidity = new int[24];
        int[] stock = new int[3];
        List<Tower> towers = new ArrayList<>();
        List<Tongs> tongs = new ArrayList<>();
        List<Banquet> banquets = new ArrayList<>();
        int banquetsSoFar;
        int held;
        int spoilt;
        int bought;
        int broken;
        int eaten;
        int brought;

        State copy() {
            State s = new State();
            s.hour = hour;
            s.coins = coins;
            s.humidity = humidity.clone();
            s.stock = stock.clone();
            for (Tower t : towers) {
                Tower n = new Tower();
                n.courses = new ArrayList<>(t.courses);
                n.dampness = t.dampness;
                n.broke = t.broke;
                s.towers.add(n);
            }
            for (Tongs t : tongs) {
                Tongs n = new Tongs();
                n.reach = t.reach;
                n.busy = t.busy;
                n.laid = t.laid;
                s.tongs.add(n);
            }
            for (Banquet b : banquets) {
                Banquet n = new Banquet();
                n.number = b.number;
                n.hour = b.hour;
                n.wants = b.wants;
                n.coins = b.coins;
                n.tower = b.tower;
                s.banquets.add(n);
            }
            s.banquetsSoFar = banquetsSoFar;
            s.held = held;
            s.spoilt = spoilt;
            s.bought = bought;
            s.broken = broken;
            s.eaten = eaten;
            s.brought = brought;
            return s;
        }
    }

    private static final String ORDER =
            "(?:b\\d\\+\\d\\d?|l\\d/\\d:\\d\\*\\d\\d?|t\\d|s\\d\\d?@\\d|h\\d\\d?)";
    private static final Pattern TEXT = Pattern.compile(ORDER + "(?:;" + ORDER + ")*");

    private State s = new State();
    private State saved;
    private final Deque<State> past = new ArrayDeque<>();
    private String input = "";
    private int error = -1;
    private int reason;
    private int detail;

    Model() {
        java.util.Arrays.fill(s.humidity, 45);
    }

    /** A call that changes, of which nothing stays if it throws. */
    private int change(IntSupplier call) {
        State before = s.copy();
        try {
            int answer = call.getAsInt();
            past.addLast(before);
            if (past.size() > 8) {
                past.removeFirst();
            }
            return answer;
        } catch (RuntimeException e) {
            s = before;
            throw e;
        }
    }

    private void refuse(boolean applies, int itsReason, int itsDetail) {
        if (applies) {
            reason = itsReason;
            detail = itsDetail;
            throw new UnsupportedOperationException();
        }
    }

    private static void range(int least, int number, int most) {
        if (number < least || number > most) {
            throw new IllegalArgumentException();
        }
    }

    private static void index(int number, int size) {
        if (number < 0 || number >= size) {
            throw new IndexOutOfBoundsException();
        }
    }

    private Tower aTower(int number) {
        index(number, s.towers.size());
        return s.towers.get(number);
    }

    private Banquet aBanquet(int number) {
        return s.banquets.stream().filter(b -> b.number == number).findFirst()
                .orElseThrow(NoSuchElementException::new);
    }

    int humidity(int hour, int percent) {
        index(hour, 24);
        range(0, percent, 99);
        return change(() -> {
            int before = s.humidity[hour];
            s.humidity[hour] = percent;
            return before;
        });
    }

    int humidityIn(int hours) {
        range(0, hours, 99);
        return s.humidity[(s.hour + hours) % 24];
    }

    private int doBuy(int grade, int many) {
        range(0, grade, 2);
        range(1, many, 99);
        refuse(s.stock[grade] + many > 300, 3, s.stock[grade]);
        int price = many * (grade + 1);
        refuse(price > s.coins, 2, price - s.coins);
        s.coins -= price;
        s.bought += many;
        return s.stock[grade] += many;
    }

    int buy(int grade, int many) {
        return change(() -> doBuy(grade, many));
    }

    int stock(int grade) {
        range(0, grade, 2);
        return s.stock[grade];
    }

    int tongs(int reach) {
        range(1, reach, 10);
        return change(() -> {
            refuse(s.tongs.size() == 4, 1, 4);
            Tongs t = new Tongs();
            t.reach = reach;
            s.tongs.add(t);
            return s.tongs.size() - 1;
        });
    }

    int tongsOf(int number, int what) {
        index(number, s.tongs.size());
        range(0, what, 2);
        Tongs t = s.tongs.get(number);
        return new int[] {t.reach, t.busy, t.laid}[what];
    }

    int tongsFor(int course) {
        range(0, course, 9);
        return s.tongs.indexOf(s.tongs.stream().filter(t -> t.busy == 0 && course < t.reach)
                .min(Comparator.comparingInt(t -> t.reach)).orElseThrow(NoSuchElementException::new));
    }

    int tower() {
        return change(() -> {
            refuse(s.towers.size() == 6, 1, 6);
            s.towers.add(new Tower());
            return s.towers.size() - 1;
        });
    }

    private int doLay(int tower, int tongs, int grade, int cubes) {
        Tower t = aTower(tower);
        index(tongs, s.tongs.size());
        range(0, grade, 2);
        range(1, cubes, 20);
        Tongs used = s.tongs.get(tongs);
        int n = t.courses.size();
        refuse(n == 10, 1, 10);
        refuse(used.busy > 0, 4, used.busy);
        refuse(n >= used.reach, 5, used.reach);
        refuse(s.stock[grade] < cubes, 6, s.stock[grade]);
        int below = n == 0 ? 20 : t.courses.get(n - 1).cubes;
        refuse(cubes > below, 7, below);
        Course c = new Course();
        c.grade = grade;
        c.cubes = cubes;
        t.courses.add(c);
        refuse(t.weak(t.dampness, 0) >= 0, 8, t.weak(t.dampness, 0));
        s.stock[grade] -= cubes;
        used.busy = cubes / 5 + 1;
        used.laid += cubes;
        return n;
    }

    int lay(int tower, int tongs, int grade, int cubes) {
        return change(() -> doLay(tower, tongs, grade, cubes));
    }

    int why(int tower, int tongs, int grade, int cubes) {
        State before = s.copy();
        int keptReason = reason;
        int keptDetail = detail;
        try {
            doLay(tower, tongs, grade, cubes);
            return 0;
        } catch (UnsupportedOperationException e) {
            return reason;
        } finally {
            s = before;
            reason = keptReason;
            detail = keptDetail;
        }
    }

    private int doTake(int tower) {
        Tower t = aTower(tower);
        refuse(t.courses.isEmpty(), 9, tower);
        Course c = t.courses.remove(t.courses.size() - 1);
        s.stock[c.grade] += c.cubes;
        if (s.stock[c.grade] > 300) {
            s.broken += s.stock[c.grade] - 300;
            s.stock[c.grade] = 300;
        }
        return c.cubes;
    }

    int take(int tower) {
        return change(() -> doTake(tower));
    }

    int courseOf(int tower, int course, int what) {
        Tower t = aTower(tower);
        index(course, t.courses.size());
        range(0, what, 3);
        Course c = t.courses.get(course);
        return new int[] {c.grade, c.cubes, t.cubes(course + 1), t.bears(course, t.dampness)}[what];
    }

    int bearsAgain(int tower, int course) {
        return courseOf(tower, course, 3);
    }

    int towerOf(int tower, int what) {
        Tower t = aTower(tower);
        range(0, what, 4);
        int shown = (int) s.banquets.stream().filter(b -> b.tower == tower).count();
        return new int[] {t.courses.size(), t.cubes(0), t.dampness, shown, t.broke}[what];
    }

    int spare(int tower) {
        Tower t = aTower(tower);
        int more = 20;
        while (t.weak(t.dampness, more) >= 0) {
            more--;
        }
        return more;
    }

    char sign(int tower) {
        Tower t = aTower(tower);
        if (t.courses.isEmpty()) {
            return 'n';
        }
        return t.weak(t.dampness, 1) >= 0 ? 'w' : 's';
    }

    boolean stands(int tower, int dampness) {
        Tower t = aTower(tower);
        range(0, dampness, 99);
        return t.weak(dampness, 0) < 0;
    }

    int breaksIn(int tower) {
        aTower(tower);
        State before = s;
        s = s.copy();
        s.banquets.clear();
        try {
            for (int i = 1; i <= 72; i++) {
                int broke = s.towers.get(tower).broke;
                hourGoesBy();
                if (s.towers.get(tower).broke > broke) {
                    return i;
                }
            }
            throw new NoSuchElementException();
        } finally {
            s = before;
        }
    }

    int banquet(int hour, int courses, int coins) {
        range(0, hour, 9999);
        range(1, courses, 10);
        range(1, coins, 200);
        return change(() -> {
            refuse(s.banquets.size() == 6, 1, 6);
            refuse(hour <= s.hour, 10, s.hour);
            Banquet b = new Banquet();
            b.number = s.banquetsSoFar++;
            b.hour = hour;
            b.wants = courses;
            b.coins = coins;
            s.banquets.add(b);
            return b.number;
        });
    }

    private int missing(Banquet b) {
        return b.tower < 0 ? b.wants : Math.max(0, b.wants - s.towers.get(b.tower).courses.size());
    }

    private int doShow(int banquet, int tower) {
        Banquet b = aBanquet(banquet);
        aTower(tower);
        b.tower = tower;
        return missing(b);
    }

    int show(int banquet, int tower) {
        return change(() -> doShow(banquet, tower));
    }

    int cancel(int banquet) {
        return change(() -> {
            s.banquets.remove(aBanquet(banquet));
            return s.banquets.size();
        });
    }

    int banquetOf(int banquet, int what) {
        Banquet b = aBanquet(banquet);
        range(0, what, 4);
        return new int[] {b.hour, b.wants, b.coins, b.tower, missing(b)}[what];
    }

    int next() {
        return s.banquets.stream().min(Comparator.comparingInt(b -> b.hour))
                .orElseThrow(NoSuchElementException::new).number;
    }

    private int hourGoesBy() {
        int percent = s.humidity[s.hour % 24];
        int broke = 0;
        for (Tower t : s.towers) {
            if (percent > 50) {
                t.dampness = Math.min(99, t.dampness + (percent - 50) / 10);
            } else if (percent < 40) {
                t.dampness = Math.max(0, t.dampness - 1);
            }
        }
        for (Tower t : s.towers) {
            int weak = t.weak(t.dampness, 0);
            if (weak >= 0) {
                broke += t.courses.size() - weak;
                t.broke += t.courses.size() - weak;
                s.broken += t.lose(weak);
            }
        }
        s.tongs.forEach(t -> t.busy = Math.max(0, t.busy - 1));
        s.hour++;
        for (Banquet b : new ArrayList<>(s.banquets)) {
            if (b.hour != s.hour) {
                continue;
            }
            s.banquets.remove(b);
            if (b.tower < 0 || s.towers.get(b.tower).courses.size() < b.wants) {
                s.spoilt++;
                continue;
            }
            s.held++;
            s.coins += b.coins;
            s.brought += b.coins;
            s.eaten += s.towers.get(b.tower).lose(0);
            s.towers.get(b.tower).dampness = 0;
        }
        return broke;
    }

    private int doPass(int hours) {
        range(1, hours, 72);
        int broke = 0;
        for (int i = 0; i < hours; i++) {
            broke += hourGoesBy();
        }
        return broke;
    }

    int pass(int hours) {
        return change(() -> doPass(hours));
    }

    int append(char c) {
        if (input.length() == 60) {
            throw new IllegalStateException();
        }
        input += c;
        return input.length();
    }

    private static boolean canGoOn(String start) {
        Matcher m = TEXT.matcher(start);
        return m.matches() || m.hitEnd();
    }

    private static int errorOf(String text) {
        for (int i = 1; i <= text.length(); i++) {
            if (!canGoOn(text.substring(0, i))) {
                return i - 1;
            }
        }
        return TEXT.matcher(text).matches() ? -1 : text.length();
    }

    int read() {
        String text = input;
        input = "";
        error = errorOf(text);
        if (error >= 0) {
            throw new IllegalArgumentException();
        }
        return change(() -> {
            try {
                String[] orders = text.split(";");
                for (String order : orders) {
                    carryOut(order);
                }
                return orders.length;
            } catch (IndexOutOfBoundsException | NoSuchElementException e) {
                throw new IllegalArgumentException();
            }
        });
    }

    private void carryOut(String order) {
        String[] words = order.substring(1).split("\\D");
        int[] n = new int[words.length];
        for (int i = 0; i < n.length; i++) {
            n[i] = Integer.parseInt(words[i]);
        }
        switch (order.charAt(0)) {
            case 'b' -> doBuy(n[0], n[1]);
            case 'l' -> doLay(n[0], n[1], n[2], n[3]);
            case 't' -> doTake(n[0]);
            case 's' -> doShow(n[0], n[1]);
            default -> doPass(n[0]);
        }
    }

    int errorPosition() {
        return error;
    }

    int refusal(boolean isDetail) {
        if (reason == 0) {
            throw new NoSuchElementException();
        }
        return isDetail ? detail : reason;
    }

    int account(int what) {
        range(0, what, 16);
        int busy = (int) s.tongs.stream().filter(t -> t.busy > 0).count();
        int inStock = s.stock[0] + s.stock[1] + s.stock[2];
        int inTowers = s.towers.stream().mapToInt(t -> t.cubes(0)).sum();
        int courses = s.towers.stream().mapToInt(t -> t.courses.size()).sum();
        return new int[] {s.hour, s.coins, s.towers.size(), s.tongs.size(), busy, s.banquets.size(), s.held, s.spoilt,
            s.bought, inStock, inTowers, s.broken, s.eaten, courses, s.brought, input.length(), past.size()}[what];
    }

    boolean isWell() {
        return true;
    }

    double meanDampness() {
        if (s.towers.isEmpty()) {
            throw new ArithmeticException();
        }
        return (double) s.towers.stream().mapToInt(t -> t.dampness).sum() / (double) s.towers.size();
    }

    float broken() {
        if (s.bought == 0) {
            throw new ArithmeticException();
        }
        return (float) s.broken / (float) s.bought;
    }

    int undo() {
        if (past.isEmpty()) {
            throw new IllegalStateException();
        }
        s = past.removeLast();
        return past.size();
    }

    int save() {
        saved = s.copy();
        return s.towers.size();
    }

    int restore() {
        if (saved == null) {
            throw new IllegalStateException();
        }
        s = saved.copy();
        past.clear();
        return s.towers.size();
    }
}
