import java.util.Random;

/** Plays the same calls on the class and on the plain second writing, towns by a seed. */
public final class AgainstPlainTest {
    private final Random random;
    private final TwoForOne x = new TwoForOne();
    private final Plain y = new Plain();
    private int sorts = 1;
    private int people = 0;
    private int meetings = 0;
    private int ties = 0;
    private final StringBuilder told = new StringBuilder();
    private int calls = 0;

    private AgainstPlainTest(long seed) {
        random = new Random(seed);
    }

    private int below(int n) {
        return random.nextInt(n);
    }

    private String lineOf(int size) {
        StringBuilder line = new StringBuilder("person");
        int rare = below(3);
        boolean worthFirst = below(2) == 0;
        for (int i = 0; i < 2 * sorts; i++) {
            int sort = i % sorts;
            boolean isWorth = worthFirst == i < sorts;
            if (isWorth && below(4) > 0) {
                line.append(" worth ").append(sort).append(' ').append(below(below(2) == 0 ? 9 : 100));
            } else if (!isWorth && below(rare + 1) == 0) {
                line.append(" has ").append(sort).append(' ').append(below(size + 1));
            }
        }
        int pairs = sorts > 1 && below(2) == 0 ? below(4) : 0;
        for (int i = 0; i < pairs; i++) {
            int sort = below(sorts);
            int other = (sort + 1 + below(sorts - 1)) % sorts;
            line.append(" pair ").append(sort).append(' ').append(other).append(' ').append(below(60));
        }
        if (below(2) == 0) {
            line.append(" falls ").append(below(4) == 0 ? below(101) : below(5) * 10);
        }
        return line.append(';').toString();
    }

    private String text() {
        StringBuilder text = new StringBuilder();
        sorts = 1;
        if (below(12) > 0) {
            sorts = 1 + below(below(3) == 0 ? 8 : 5);
            text.append("sorts ").append(sorts).append(';');
        }
        int size = below(6) == 0 ? 20 : 1 + below(4);
        people = below(20) == 0 ? below(2) : 2 + below(below(3) == 0 ? 5 : 2);
        for (int i = 0; i < people; i++) {
            text.append(lineOf(size));
        }
        if (below(2) == 0) {
            text.append("law ").append(1 + below(3));
            if (below(3) == 0) {
                text.append(" spoon ").append(below(sorts));
            }
            text.append(below(3) == 0 ? " burns;" : ";");
        }
        ties = sorts > 1 && below(2) == 0 ? below(5) : 0;
        for (int i = 0; i < ties; i++) {
            int made = below(sorts);
            text.append("tie ").append((made + 1 + below(sorts - 1)) % sorts).append(' ')
                    .append((made + 1 + below(sorts - 1)) % sorts).append(' ').append(made).append(';');
        }
        meetings = people > 1 ? below(below(4) == 0 ? 9 : 5) : 0;
        for (int i = 0; i < meetings; i++) {
            int first = below(people);
            text.append("meet ").append(first).append(' ').append((first + 1 + below(people - 1)) % people).append(';');
        }
        return text.toString();
    }

    private static final String[] PIECES = {"sorts", "person", "has", "worth", "pair", "falls", "law", "spoon", "burns",
        "tie", "meet", ";", "0", "1", "2", "3", "4", "8", "9", "20", "21", "99", "100", "101", "12345", "0003", "00003",
        " ", "\n", "A", "per", "\u0080", "\u0000", "`", "{", ":", "/", ""};

    private String spoilt(String text) {
        StringBuilder other = new StringBuilder(text);
        int times = 1 + below(2);
        for (int i = 0; i < times; i++) {
            if (below(2) == 0) {
                spoilToken(other);
                continue;
            }
            int at = below(other.length() + 1);
            int upTo = below(3) == 0 ? at : Math.min(other.length(), at + below(6));
            String piece = PIECES[below(PIECES.length)];
            other.replace(at, upTo, below(3) == 0 ? " " + piece + " " : piece);
        }
        if (below(4) == 0) {
            other.setLength(below(other.length() + 1));
        }
        return other.toString();
    }

    /** A number for a number, or a piece between blanks once more at another blank. */
    private void spoilToken(StringBuilder text) {
        int from = text.indexOf(" ", below(text.length() + 1));
        int upTo = from < 0 ? -1 : text.indexOf(" ", from + 1);
        if (upTo < 0) {
            return;
        }
        int semicolon = text.indexOf(";", from);
        if (below(2) == 0) {
            boolean number = Character.isDigit(text.charAt(from + 1));
            if (number) {
                text.replace(from + 1, semicolon < 0 ? upTo : Math.min(upTo, semicolon), PIECES[12 + below(15)]);
            }
        } else if (below(2) == 0 && semicolon > 0) {
            int behind = text.indexOf(";", semicolon + 1);
            if (behind > 0) {
                text.insert(behind + 1, text.substring(semicolon + 1, behind + 1).repeat(1 + below(7)));
            }
        } else {
            int end = text.indexOf(" ", Math.min(text.length(), upTo + 1));
            int more = end < 0 ? -1 : text.indexOf(" ", end + 1);
            int last = more > 0 && below(2) == 0 ? more : Math.max(end, upTo);
            text.insert(last, text.substring(from, last).repeat(1 + below(7)));
        }
    }

    private boolean same(String call, Check.Call one, Check.Call other) {
        calls++;
        String got = Check.outcome(one);
        String want = Check.outcome(other);
        told.append('\n').append(call).append(" = ").append(want);
        if (got.equals(want)) {
            return true;
        }
        Check.due(told.append("\nof these calls the last").toString(), got, want);
        return false;
    }

    private boolean feed(String text) {
        for (int from = 0; from < text.length(); from += 20) {
            int[] five = new int[5];
            for (int i = 0; i < 20; i++) {
                int sign = from + i < text.length() ? text.charAt(from + i) : ' ';
                five[i / 4] = five[i / 4] << 8 | sign;
            }
            if (!same("feed", () -> x.feed(five[0], five[1], five[2], five[3], five[4]), () -> y.feed(five))) {
                return false;
            }
        }
        return true;
    }

    private int oneOf(int n) {
        return below(25) == 0 ? below(12) - 3 : below(Math.max(1, n));
    }

    private int given(int a) {
        int g = x.count(2);
        calls++;
        if (below(12) == 0) {
            return below(900) - 100;
        }
        boolean owned = a >= 0 && a < people;
        int[] row = new int[g];
        for (int i = 0; i < g; i++) {
            row[i] = below(sorts) + 1;
            for (int k = 0; owned && k < 6 && y.has(a, row[i] - 1) == 0; k++) {
                row[i] = below(sorts) + 1;
            }
        }
        if (below(10) > 0) {
            java.util.Arrays.sort(row);
        }
        int number = 0;
        for (int sort : row) {
            number = number * 9 + sort;
        }
        return number;
    }

    private boolean anyCall() {
        int a = oneOf(people);
        int b = a >= 0 && below(20) > 0 && people > 1 ? (a + 1 + below(people - 1)) % people : oneOf(people);
        int s = oneOf(sorts);
        int what = oneOf(2);
        switch (below(36)) {
            case 0: return same("fault", x::fault, y::fault);
            case 1: {
                int k = oneOf(12);
                return same("count " + k, () -> x.count(k), () -> y.count(k));
            }
            case 2: return same("likes " + a + " " + s, () -> x.likes(a, s), () -> y.likes(a, s));
            case 3: return same("worth " + a, () -> x.worth(a), () -> y.worth(a));
            case 4: return same("left " + s, () -> x.left(s), () -> y.left(s));
            case 5: {
                int m = oneOf(meetings);
                return same("meeting " + m + " " + what, () -> x.meeting(m, what), () -> y.meeting(m, what));
            }
            case 6, 7, 8: {
                int n = given(a);
                int k = oneOf(4);
                String call = "look " + a + " " + b + " " + n + " " + s + " " + k;
                return same(call, () -> x.look(a, b, n, s, k), () -> y.look(a, b, n, s, k));
            }
            case 9, 10, 11: {
                int n = given(a);
                String call = "trade " + a + " " + b + " " + n + " " + s;
                return same(call, () -> x.trade(a, b, n, s) ? 1 : 0, () -> y.trade(a, b, n, s));
            }
            case 12, 13: {
                int k = oneOf(ties);
                return same("tie " + a + " " + k, () -> x.tie(a, k) ? 1 : 0, () -> y.tie(a, k));
            }
            case 14, 15, 16: return same("come " + a + " " + s, () -> x.come(a, s), () -> y.come(a, s)) && kept();
            case 17, 18: return same("poor " + a + " " + s, () -> x.poor(a, s), () -> y.poor(a, s)) && kept();
            case 19, 20: return same("most", x::most, y::most) && kept();
            case 21: return same("freely", x::freely, y::freely);
            case 22: return same("meet " + a + " " + b, () -> x.meet(a, b), () -> y.meet(a, b)) && state();
            case 23: {
                int d = below(4) == 0 ? oneOf(61) : oneOf(3);
                return same("days " + d, () -> x.days(d), () -> y.days(d)) && state();
            }
            case 24: {
                int k = oneOf(3 + people);
                return same("end " + k, () -> x.end(k), () -> y.end(k));
            }
            case 25: return same("order", x::order, y::order) && kept();
            case 26, 27: return same("ahead " + a, () -> x.ahead(a), () -> y.ahead(a));
            case 28: {
                int d = below(12);
                return same("still " + a + " " + d + " " + what, () -> x.still(a, d, what), () -> y.still(a, d, what));
            }
            case 29, 30: return same("share " + what, () -> x.share(what), () -> y.share(what)) && kept();
            case 31: {
                int l = oneOf(6);
                return same("law " + l + " " + what, () -> x.law(l, what), () -> y.law(l, what));
            }
            case 32: return same("best", x::best, y::best);
            case 33: {
                int m = below(6) == 0 ? below(500) - 40 : below(8);
                int seed = random.nextInt();
                return same("run " + m + " " + seed, () -> x.run(m, seed), () -> y.run(m, seed)) && state();
            }
            case 34: {
                x.image();
                y.image();
                told.append("\nimage");
                return true;
            }
            default: return same("restore", () -> x.restore() ? 1 : 0, y::restore) && state();
        }
    }

    private boolean state() {
        for (int p = -1; p <= people; p++) {
            int person = p;
            if (!same("worth " + p, () -> x.worth(person), () -> y.worth(person))) {
                return false;
            }
            for (int s = 0; s <= sorts; s++) {
                int sort = s;
                if (!same("has " + p + " " + s, () -> x.has(person, sort), () -> y.has(person, sort))) {
                    return false;
                }
            }
        }
        return true;
    }

    private boolean kept() {
        boolean good = true;
        int from = below(3);
        for (int i = 0; i < 4 && good; i++) {
            int k = i == 3 ? below(20) - 2 : from + i;
            int what = oneOf(4);
            good = same("step " + k + " " + what, () -> x.step(k, what), () -> y.step(k, what))
                    && same("ordered " + k, () -> x.ordered(k), () -> y.ordered(k));
        }
        int one = oneOf(people);
        for (int s = 0; s <= sorts && good; s++) {
            int sort = s;
            good = same("bag " + s, () -> x.bag(sort), () -> y.bag(sort))
                    && same("shared " + one + " " + s, () -> x.shared(one, sort), () -> y.shared(one, sort));
        }
        return good;
    }

    private boolean tell() {
        String text = text();
        boolean spoil = below(5) < 2;
        if (spoil) {
            text = spoilt(text);
        }
        if (text.length() > 700) {
            text = text.substring(0, 700);
        }
        String whole = text;
        told.append("\n[").append(text).append("]");
        int n = below(30) == 0 ? text.length() + below(60) - 20 : text.length();
        if (!feed(whole) || !same("town " + n, () -> x.town(n), () -> y.town(n))) {
            return false;
        }
        if (!same("fault", x::fault, y::fault)) {
            return false;
        }
        people = x.count(0);
        sorts = x.count(1);
        ties = x.count(5);
        meetings = x.count(6);
        calls += 4;
        for (int k = 0; k < 12; k++) {
            int what = k;
            if (!same("count " + k, () -> x.count(what), () -> y.count(what))) {
                return false;
            }
        }
        return state();
    }

    /** At most as many calls as an object is used for. */
    private boolean play() {
        boolean good = below(10) > 0 || anyCall();
        while (good && calls < 390) {
            good = below(people < 2 ? 3 : 24) < 2 ? tell() : anyCall();
        }
        return good;
    }

    public static void main(String[] args) {
        int towns = args.length > 0 ? Integer.parseInt(args[0]) : 400;
        int from = args.length > 1 ? Integer.parseInt(args[1]) : 1;
        for (int seed = from; seed < from + towns; seed++) {
            if (!new AgainstPlainTest(seed).play()) {
                System.out.println("seed " + seed);
                break;
            }
        }
        Check.end();
    }
}
