/** Promise 5: counts. */
public final class Promise05Test {
    public static void main(String[] args) {
        TwoForOne x = Check.town("sorts 4;person has 0 3 has 1 2;person has 3 4;person;law 3 spoon 2 burns;tie 0 1 2;"
                + "tie 0 0 1;meet 0 1;meet 1 2;meet 2 0;");
        int[] counts = {3, 4, 3, 2, 1, 2, 3, 0, 9, 0, 0, 0};
        for (int what = 0; what < counts.length; what++) {
            Check.due("count " + what, x.count(what), counts[what]);
        }
        Check.feed(x, "law 4;");
        Check.due("bytes", x.count(7), 20);
        x.town(6);
        Check.due("texts refused", x.count(9), 1);
        Check.due("a trade", x.trade(0, 1, 1 * 81 + 1 * 9 + 1, 3), false);
        Check.due("a trade", x.trade(0, 1, 1 * 81 + 1 * 9 + 2, 3), false);
        Check.due("trades refused", x.count(10), 2);
        Check.due("a tie", x.tie(2, 0), false);
        Check.due("a tie", x.tie(2, 1), false);
        Check.due("a tie", x.tie(1, 1), false);
        Check.due("ties refused", x.count(11), 3);
        Check.due("a good tie", x.tie(0, 1), true);
        Check.due("ties refused", x.count(11), 3);
        Check.due("all things are one less", x.count(8), 8);
        Check.none("count 12", () -> x.count(12));
        Check.none("count -1", () -> x.count(-1));
        Check.none("count least", () -> x.count(Integer.MIN_VALUE));
        Check.none("count most", () -> x.count(Integer.MAX_VALUE));
        Check.due("refused looks count for nothing", x.count(10), 2);
        Check.end();
    }
}
