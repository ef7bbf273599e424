/** What the tests share: towns told by a text, answers compared, exceptions awaited. */
final class Check {
    interface Call {
        long answer();
    }

    private static int wrong = 0;

    private Check() {
    }

    static void due(String what, long got, long want) {
        if (got != want) {
            wrong++;
            System.out.println(what + " answered " + got + ", due is " + want);
        }
    }

    static void due(String what, boolean got, boolean want) {
        due(what, got ? 1 : 0, want ? 1 : 0);
    }

    /** The call must throw just this class, not one below it. */
    static void thrown(String what, Class<?> kind, Call call) {
        String got = outcome(call);
        if (!got.equals(kind.getSimpleName())) {
            wrong++;
            System.out.println(what + " came to " + got + ", due is " + kind.getSimpleName());
        }
    }

    static void none(String what, Call call) {
        thrown(what, java.util.NoSuchElementException.class, call);
    }

    static void bad(String what, Call call) {
        thrown(what, IllegalArgumentException.class, call);
    }

    static String outcome(Call call) {
        try {
            return String.valueOf(call.answer());
        } catch (RuntimeException e) {
            return e.getClass().getSimpleName();
        }
    }

    /** Feeds a text in pieces of twenty bytes, blanks behind it. */
    static void feed(TwoForOne x, String text) {
        for (int from = 0; from < text.length(); from += 20) {
            x.feed(four(text, from), four(text, from + 4), four(text, from + 8),
                    four(text, from + 12), four(text, from + 16));
        }
    }

    private static int four(String text, int from) {
        int number = 0;
        for (int i = from; i < from + 4; i++) {
            number = number << 8 | (i < text.length() ? text.charAt(i) : ' ');
        }
        return number;
    }

    static int tell(TwoForOne x, String text) {
        feed(x, text);
        return x.town(text.length());
    }

    /** A new object with this town. */
    static TwoForOne town(String text) {
        TwoForOne x = new TwoForOne();
        due("town of: " + text, tell(x, text), 0);
        return x;
    }

    static void fault(String text, int number, int place) {
        TwoForOne x = new TwoForOne();
        due("fault of: " + text, tell(x, text), number);
        due("place in: " + text, x.fault(), place);
    }

    /** What one has, a figure behind the other (each below 10). */
    static String bag(TwoForOne x, int person) {
        StringBuilder row = new StringBuilder();
        for (int sort = 0; sort < x.count(1); sort++) {
            row.append(x.has(person, sort)).append(sort + 1 < x.count(1) ? " " : "");
        }
        return row.toString();
    }

    /** What all have, a bag behind the other. */
    static String bags(TwoForOne x) {
        StringBuilder row = new StringBuilder();
        for (int person = 0; person < x.count(0); person++) {
            row.append(person > 0 ? " / " : "").append(bag(x, person));
        }
        return row.toString();
    }

    static void due(String what, String got, String want) {
        if (!got.equals(want)) {
            wrong++;
            System.out.println(what + " answered " + got + ", due is " + want);
        }
    }

    static void end() {
        if (wrong > 0) {
            System.out.println(wrong + " answers are not as due");
            System.exit(1);
        }
    }
}
