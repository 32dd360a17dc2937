import java.util.Objects;

/** Counts and prints the answers that are not as due. */
final class Checks {
    interface Call {
        Object answer();
    }

    private int right;
    private int wrong;

    void due(String what, Object want, Call call) {
        Object got = answerOf(call);
        if (Objects.equals(got, want)) {
            right++;
        } else {
            wrong++;
            System.out.println(what + ": answered " + got + ", due is " + want);
        }
    }

    void dueThrow(String what, Class<? extends RuntimeException> want, Call call) {
        due(what, "throws " + want.getSimpleName(), call);
    }

    /** The answer of a call; an exception is told by its exact class, so that a machine's own one is seen. */
    static Object answerOf(Call call) {
        try {
            return call.answer();
        } catch (RuntimeException e) {
            return "throws " + e.getClass().getSimpleName();
        }
    }

    void end() {
        System.out.println(right + " answers as due, " + wrong + " not");
        if (wrong != 0 || right == 0) {
            System.exit(1);
        }
    }

    static void type(SugarTowers hotel, String text) {
        for (int i = 0; i < text.length(); i++) {
            hotel.append(text.charAt(i));
        }
    }

    static Object read(SugarTowers hotel, String text) {
        type(hotel, text);
        return answerOf(hotel::read);
    }
}
