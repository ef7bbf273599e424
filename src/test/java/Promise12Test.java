/** Promise 12: a trade is made, or refused. */
public final class Promise12Test {
    public static void main(String[] args) {
        made();
        burnt();
        refused();
        wrongOnes();
        Check.end();
    }

    private static void made() {
        TwoForOne x = Check.town("sorts 4;person has 0 2 has 2 1;person has 1 1 has 3 20;");
        Check.due("two alike", x.trade(0, 1, 10, 1), true);
        Check.due("bags", Check.bags(x), "0 1 1 0 / 2 0 0 20");
        Check.due("two unlike, wanted by none", x.trade(0, 1, 21, 3), true);
        Check.due("bags", Check.bags(x), "0 0 0 1 / 2 1 1 19");
        Check.due("the other way", x.trade(1, 0, 11, 3), true);
        Check.due("bags", Check.bags(x), "1 1 0 0 / 1 0 1 20");
        TwoForOne y = Check.town("sorts 4;law 3;person has 0 1 has 1 2;person has 3 1;");
        Check.due("three", y.trade(0, 1, 1 * 81 + 2 * 9 + 2, 3), true);
        Check.due("bags", Check.bags(y), "0 0 0 1 / 1 2 0 0");
        TwoForOne z = Check.town("sorts 2;law 1;person has 0 20;person has 1 20 has 0 20;");
        Check.due("one for one", z.trade(0, 1, 1, 1), true);
        Check.due("more than 20", Check.bags(z), "19 1 / 21 19");
    }

    private static void burnt() {
        TwoForOne x = Check.town("sorts 4;law 3 burns;person has 0 1 has 1 2;person has 3 1;");
        Check.due("three", x.trade(0, 1, 1 * 81 + 2 * 9 + 2, 3), true);
        Check.due("the first is kept", Check.bags(x), "0 0 0 1 / 1 0 0 0");
        TwoForOne y = Check.town("sorts 4;law 3 spoon 0 burns;person has 0 2 has 1 3;person has 3 2;");
        Check.due("three", y.trade(0, 1, 1 * 81 + 1 * 9 + 2, 3), true);
        Check.due("the first that is no spoon", Check.bags(y), "0 2 0 1 / 0 1 0 1");
        TwoForOne z = Check.town("sorts 4;law 2 spoon 1 burns;person has 1 2;person has 3 2;");
        Check.due("two spoons", z.trade(0, 1, 20, 3), true);
        Check.due("a spoon is kept", Check.bags(z), "0 0 0 1 / 0 1 0 1");
        TwoForOne one = Check.town("sorts 2;law 1 burns;person has 0 1;person has 1 1;");
        Check.due("one", one.trade(0, 1, 1, 1), true);
        Check.due("nothing else is there to burn", Check.bags(one), "0 1 / 1 0");
        TwoForOne spoon = Check.town("sorts 2;law 1 spoon 0;person has 0 1;person has 1 1;");
        Check.due("not the spoon", spoon.trade(1, 0, 2, 0), false);
        Check.due("the spoon", spoon.trade(0, 1, 1, 1), true);
    }

    private static void refused() {
        TwoForOne x = Check.town("sorts 3;law 2 spoon 1;person has 0 1 has 1 1;person has 2 1 has 1 1;");
        Check.due("a has not both", x.trade(0, 1, 20, 2), false);
        Check.due("no spoon", x.trade(0, 1, 10, 2), false);
        Check.due("z is given", x.trade(0, 1, 11, 1), false);
        Check.due("b has no z", x.trade(1, 0, 21, 0), true);
        Check.due("b has no z", x.trade(1, 0, 21, 0), false);
        Check.due("status", x.count(10), 4);
        Check.due("ties are not trades", x.count(11), 0);
        Check.due("bags", Check.bags(x), "0 2 1 / 1 0 0");
        Check.due("b has no z", x.trade(0, 1, 21, 2), false);
        Check.due("status", x.count(10), 5);
    }

    private static void wrongOnes() {
        TwoForOne x = Check.town("sorts 3;person has 0 2;person has 1 1;");
        Check.none("no such person", () -> x.trade(2, 1, 10, 1) ? 1 : 0);
        Check.none("no such person", () -> x.trade(0, 2, 10, 1) ? 1 : 0);
        Check.none("no such person", () -> x.trade(-1, 1, 10, 1) ? 1 : 0);
        Check.none("no such person", () -> x.trade(0, -1, 10, 1) ? 1 : 0);
        Check.none("both are one", () -> x.trade(1, 1, 10, 1) ? 1 : 0);
        Check.none("no such z", () -> x.trade(0, 1, 10, 3) ? 1 : 0);
        Check.none("no such z", () -> x.trade(0, 1, 10, -1) ? 1 : 0);
        Check.none("no number", () -> x.trade(0, 1, 9, 1) ? 1 : 0);
        Check.none("not in order", () -> x.trade(0, 1, 19, 1) ? 1 : 0);
        Check.none("no such sort", () -> x.trade(0, 1, 13, 1) ? 1 : 0);
        Check.due("none was refused", x.count(10), 0);
        Check.due("bags", Check.bags(x), "2 0 0 / 0 1 0");
    }
}
