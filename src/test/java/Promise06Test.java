/** Promise 6: what one has now. */
public final class Promise06Test {
    public static void main(String[] args) {
        TwoForOne x = Check.town("sorts 3;person has 2 20 has 0 1;person has 1 7;");
        Check.due("bags", Check.bags(x), "1 0 20 / 0 7 0");
        Check.due("a trade", x.trade(0, 1, 30, 1), true);
        Check.due("bags", Check.bags(x), "1 1 18 / 0 6 2");
        Check.none("no such person", () -> x.has(2, 0));
        Check.none("no such person", () -> x.has(-1, 0));
        Check.none("no such person", () -> x.has(Integer.MAX_VALUE, 0));
        Check.none("no such sort", () -> x.has(0, 3));
        Check.none("no such sort", () -> x.has(0, -1));
        Check.none("no such sort", () -> x.has(1, Integer.MIN_VALUE));
        Check.end();
    }
}
