/** Promise 11: a trade looked at. */
public final class Promise11Test {
    public static void main(String[] args) {
        gains();
        littleGains();
        numbers();
        spoons();
        burning();
        hasThem();
        wrongOnes();
        Check.end();
    }

    private static void look(TwoForOne x, int a, int b, int given, int z, int gainOfA, int gainOfB) {
        String what = "look " + a + " " + b + " " + given + " " + z;
        Check.due(what, x.look(a, b, given, z, 0), 1);
        Check.due(what + " of a", x.look(a, b, given, z, 1), gainOfA);
        Check.due(what + " of b", x.look(a, b, given, z, 2), gainOfB);
        int both = gainOfA > 0 && gainOfB > 0 ? gainOfA + gainOfB : 0;
        Check.due(what + " of both", x.look(a, b, given, z, 3), both);
    }

    private static void unlawful(TwoForOne x, int a, int b, int given, int z) {
        String what = "look " + a + " " + b + " " + given + " " + z;
        Check.due(what, x.look(a, b, given, z, 0), 0);
        for (int k = 1; k <= 3; k++) {
            int asked = k;
            Check.bad(what + " " + k, () -> x.look(a, b, given, z, asked));
        }
    }

    private static void gains() {
        TwoForOne x = Check.town("sorts 3;person has 0 3 worth 0 2 worth 1 10 falls 50;"
                + "person has 1 2 worth 0 4 worth 1 3 pair 0 1 5;");
        // a: 2 by 150 less, of which 2 by 100 stay; b gets two, loses one, and the pair is there
        look(x, 0, 1, 10, 1, 1000 - 100, 800 - 300 + 500);
        look(x, 1, 0, 20, 0, -600 + 400, 1000 + 500 - 0);
        x.trade(0, 1, 10, 1);
        Check.due("who has what", Check.bags(x), "1 1 0 / 2 1 0");
        unlawful(x, 1, 0, 11, 1);
        look(x, 1, 0, 10, 1, -800 + 300 - 500, -1000 + 100 + 0);
    }

    /** One of two, and the least that can be gained: one hundredth. */
    private static void littleGains() {
        TwoForOne x = Check.town("sorts 3;law 1;person has 0 2 has 2 1 worth 1 1 falls 99;"
                + "person has 1 2 has 0 1 worth 0 1 worth 2 1 falls 99;");
        look(x, 0, 1, 1, 1, 100, 1);
        look(x, 0, 1, 3, 1, 100, 100);
        look(x, 1, 0, 2, 2, 100, 100);
        TwoForOne y = Check.town("sorts 2;law 1;person has 0 2 has 1 1 worth 1 1 falls 99;person has 1 2 worth 0 1 worth 1 1;");
        look(y, 0, 1, 1, 1, 1, 0);
        TwoForOne z = Check.town("sorts 2;law 1;person has 0 2 has 1 1 worth 1 1 falls 99;person has 1 2 has 0 1 worth 0 1 falls 99;");
        look(z, 0, 1, 1, 1, 1, 1);
        Check.due("a meeting", z.meet(1, 0), 2);
        Check.due("bags", Check.bags(z), "1 2 / 2 1");
    }

    private static void numbers() {
        TwoForOne one = Check.town("sorts 8;law 1;person has 7 1;person has 0 1 worth 7 1;");
        look(one, 0, 1, 8, 0, 0, 100);
        Check.none("0 is no number", () -> one.look(0, 1, 0, 0, 0));
        Check.none("9 is no number", () -> one.look(0, 1, 9, 0, 0));
        Check.none("below 0", () -> one.look(0, 1, -1, 0, 0));
        TwoForOne three = Check.town("sorts 8;law 3;person has 0 1 has 3 1 has 7 1;person has 1 1 worth 7 2;");
        look(three, 0, 1, 1 * 81 + 4 * 9 + 8, 1, 0, 200);
        unlawful(three, 0, 1, 1 * 81 + 1 * 9 + 8, 1);
        Check.none("not in order", () -> three.look(0, 1, 4 * 81 + 1 * 9 + 8, 1, 0));
        Check.none("not in order", () -> three.look(0, 1, 1 * 81 + 8 * 9 + 4, 1, 0));
        Check.none("two figures", () -> three.look(0, 1, 4 * 9 + 8, 1, 0));
        Check.none("four figures", () -> three.look(0, 1, 729 + 81 + 4 * 9 + 8, 1, 0));
        TwoForOne last = Check.town("sorts 8;law 3;person has 7 3;person has 0 1 worth 7 1;");
        look(last, 0, 1, 728, 0, 0, 300);
        TwoForOne two = Check.town("sorts 3;person has 0 2 has 2 2;person has 1 1;");
        look(two, 0, 1, 30, 1, 0, 0);
        look(two, 0, 1, 12, 1, 0, 0);
        Check.none("no such sort given", () -> two.look(0, 1, 13, 1, 0));
        Check.none("no such sort given", () -> two.look(0, 1, 44, 1, 0));
        Check.none("a figure 0", () -> two.look(0, 1, 9, 1, 0));
        Check.none("one figure", () -> two.look(0, 1, 3, 1, 0));
        Check.none("most", () -> two.look(0, 1, Integer.MAX_VALUE, 1, 0));
        Check.none("least", () -> two.look(0, 1, Integer.MIN_VALUE, 1, 0));
    }

    private static void spoons() {
        TwoForOne x = Check.town("sorts 4;law 2 spoon 1;person has 0 2 has 1 2 has 2 1;person has 3 1 has 1 1;");
        unlawful(x, 0, 1, 10, 3);
        unlawful(x, 0, 1, 12, 3);
        look(x, 0, 1, 11, 3, 0, 0);
        look(x, 0, 1, 20, 3, 0, 0);
        look(x, 0, 1, 21, 3, 0, 0);
        unlawful(x, 0, 1, 11, 1);
    }

    private static void burning() {
        TwoForOne x = Check.town("sorts 4;law 2 burns;person has 0 1 has 1 1 worth 3 1;"
                + "person has 3 1 worth 0 5 worth 1 7;");
        look(x, 0, 1, 11, 3, 100, 500);
        TwoForOne y = Check.town("sorts 4;law 2 spoon 0 burns;person has 0 2 has 1 1;person has 3 1 worth 0 5 worth 1 7;");
        look(y, 0, 1, 11, 3, 0, 700);
        look(y, 0, 1, 10, 3, 0, 500);
        TwoForOne z = Check.town("sorts 4;law 3 spoon 1 burns;person has 0 1 has 1 2 has 2 1;"
                + "person has 3 1 worth 0 5 worth 1 7 worth 2 9;");
        look(z, 0, 1, 1 * 81 + 2 * 9 + 3, 3, 0, 500);
        look(z, 0, 1, 2 * 81 + 2 * 9 + 3, 3, 0, 900);
    }

    private static void hasThem() {
        TwoForOne x = Check.town("sorts 3;law 3;person has 0 2 has 1 1;person has 2 1 has 0 5;");
        look(x, 0, 1, 1 * 81 + 1 * 9 + 2, 2, 0, 0);
        unlawful(x, 0, 1, 1 * 81 + 1 * 9 + 1, 2);
        unlawful(x, 0, 1, 1 * 81 + 2 * 9 + 2, 2);
        unlawful(x, 0, 1, 1 * 81 + 1 * 9 + 2, 1);
        unlawful(x, 0, 1, 1 * 81 + 1 * 9 + 2, 0);
        unlawful(x, 1, 0, 1 * 81 + 1 * 9 + 1, 0);
        look(x, 1, 0, 1 * 81 + 1 * 9 + 1, 1, 0, 0);
        unlawful(x, 1, 0, 1 * 81 + 1 * 9 + 1, 2);
    }

    private static void wrongOnes() {
        TwoForOne x = Check.town("sorts 3;person has 0 2;person has 1 1;");
        Check.none("no such person", () -> x.look(2, 1, 10, 1, 0));
        Check.none("no such person", () -> x.look(0, 2, 10, 1, 0));
        Check.none("no such person", () -> x.look(-1, 1, 10, 1, 0));
        Check.none("no such person", () -> x.look(0, -1, 10, 1, 0));
        Check.none("both are one", () -> x.look(0, 0, 10, 1, 0));
        Check.none("no such z", () -> x.look(0, 1, 10, 3, 0));
        Check.none("no such z", () -> x.look(0, 1, 10, -1, 0));
        Check.none("no such what", () -> x.look(0, 1, 10, 1, 4));
        Check.none("no such what", () -> x.look(0, 1, 10, 1, -1));
        Check.none("no such what of an unlawful one", () -> x.look(0, 1, 10, 2, 4));
        Check.none("no number of an unlawful one", () -> x.look(0, 1, 9, 2, 1));
        Check.due("no look is refused", x.count(10), 0);
        Check.due("nothing changed", Check.bags(x), "2 0 0 / 0 1 0");
        Check.due("lawful", x.look(0, 1, 10, 1, 0), 1);
        Check.due("nothing changed", Check.bags(x), "2 0 0 / 0 1 0");
    }
}
