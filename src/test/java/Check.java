/** What the tests share: towns told by a text, answers compared, exceptions awaited. */
final class Check {
    interface Call {
        long answer();
    }

    private static int wrong = 0;

    private Check() {
    }

    static void due(String what, long got, long want) {
        if (got != want) {
            wrong++;
            System.out.println(what + " answered " + got + ", due is " + want);
        }
    }

    static void due(String what, boolean got, boolean want) {
        due(what, got ? 1 : 0, want ? 1 : 0);
    }

    /** The call must throw just this class, not one below it. */
    static void thrown(String what, Class<?> kind, Call call) {
        String got = outcome(call);
        if (!got.equals(kind.getSimpleName())) {
            wrong++;
            System.out.println(what + " came to " + got + ", due is " + kind.getSimpleName());
        }
    }

    static void none(String what, Call call) {
        thrown(what, java.util.NoSuchElementException.class, call);
    }

    static void bad(String what, Call call) {
        thrown(what, IllegalArgumentException.class, call);
    }

    static String outcome(Call call) {
        try {
            return String.valueOf(call.answer());
        } catch (RuntimeException e) {
            return e.getClass().getSimpleName();
        }
    }

    /** Feeds a text in pieces of twenty bytes, blanks behind it. */
    static void feed(TwoForOne x, String text) {
        for (int from = 0; from < text.length(); from += 20) {
            x.feed(four(text, from), four(text, from + 4), four(text, from + 8),
                    four(text, from + 12), four(text, from + 16));
        }
    }

    private static int four(String text, int from) {
        int number = 0;
        for (int i = from; i < from + 4; i++) {
            number = number << 8 | (i < text.length() ? text.charAt(i) : ' ');
        }
        return number;
    }

    static int tell(TwoForOne x, String text) {
        feed(x, text);
        return x.town(text.length());
    }

    /** A new object with this town. */
    static TwoForOne town(String text) {
        TwoForOne x = new TwoForOne();
        due("town of: " + text, tell(x, text), 0);
        return x;
    }

    static void fault(String text, int number, int place) {
        TwoForOne x = new TwoForOne();
        due("fault of: " + text, tell(x, text), number);
        due("place in: " + text, x.fault(), place);
    }

    /** What one has, a figure behind the other (each below 10). */
    static String bag(TwoForOne x, int person) {
        StringBuilder row = new StringBuilder();
        int sorts = x.count(1);
        for (int sort = 0; sort < sorts; sort++) {
            row.append(sort > 0 ? " " : "").append(x.has(person, sort));
        }
        return row.toString();
    }

    /** What all have, a bag behind the other. */
    static String bags(TwoForOne x) {
        StringBuilder row = new StringBuilder();
        int people = x.count(0);
        for (int person = 0; person < people; person++) {
            row.append(person > 0 ? " / " : "").append(bag(x, person));
        }
        return row.toString();
    }

    static void due(String what, String got, String want) {
        if (!got.equals(want)) {
            wrong++;
            System.out.println(what + " answered " + got + ", due is " + want);
        }
    }

    /** A boundary case with a test of its own: CI counts the line that it prints. */
    static void edge(String sentence, Runnable test) {
        int before = wrong;
        try {
            test.run();
        } catch (RuntimeException e) {
            wrong++;
            System.out.println("thrown: " + e);
        }
        System.out.println((wrong == before ? "ok " : "FAILED ") + sentence);
    }

    /** All that can be seen of an object without a change: some 40 calls of a small town. */
    static String all(TwoForOne x) {
        StringBuilder seen = new StringBuilder("counts");
        for (int what = 0; what < 12; what++) {
            seen.append(' ').append(x.count(what));
        }
        seen.append(" fault ").append(x.fault()).append(" bags ").append(bags(x)).append(" likes");
        int sorts = x.count(1);
        int cells = x.count(0) * sorts;
        for (int cell = 0; cell < cells; cell++) {
            seen.append(' ').append(x.likes(cell / sorts, cell % sorts));
        }
        seen.append(" worth ").append(x.worth(-1)).append(" meetings");
        int meetings = x.count(6);
        for (int m = 0; m < meetings; m++) {
            seen.append(' ').append(x.meeting(m, 0)).append('-').append(x.meeting(m, 1));
        }
        return seen.append(kept(x)).toString();
    }

    /** All that is kept but the image. */
    static String kept(TwoForOne x) {
        StringBuilder seen = new StringBuilder(" way");
        for (int i = 0; isStep(x, i); i++) {
            for (int what = 0; what < 4; what++) {
                seen.append(' ').append(x.step(i, what));
            }
        }
        seen.append(" bag");
        int sorts = x.count(1);
        for (int sort = 0; sort < sorts; sort++) {
            int of = sort;
            seen.append(' ').append(outcome(() -> x.bag(of)));
        }
        seen.append(" order");
        for (int i = 0; i < 5; i++) {
            int of = i;
            seen.append(' ').append(outcome(() -> x.ordered(of)));
        }
        seen.append(" share");
        int cells = x.count(0) * sorts;
        for (int cell = 0; cell < cells; cell++) {
            int of = cell;
            seen.append(' ').append(outcome(() -> x.shared(of / sorts, of % sorts)));
        }
        return seen.toString();
    }

    private static boolean isStep(TwoForOne x, int i) {
        return !outcome(() -> x.step(i, 0)).equals("NoSuchElementException");
    }

    static void end() {
        if (wrong > 0) {
            System.out.println(wrong + " answers are not as due");
            System.exit(1);
        }
    }
}
