/** Promise 13: a tie is made, or refused. */
public final class Promise13Test {
    public static void main(String[] args) {
        TwoForOne x = Check.town("sorts 4;person has 0 2 has 1 2;person has 0 1 has 2 3;tie 0 1 2;tie 0 0 3;tie 2 3 1;");
        Check.due("of two", x.tie(0, 0), true);
        Check.due("bags", Check.bags(x), "1 1 1 0 / 1 0 3 0");
        Check.due("of one, twice", x.tie(0, 1), false);
        Check.due("of one, twice", x.tie(1, 1), false);
        Check.due("the second is missing", x.tie(1, 2), false);
        Check.due("of two", x.tie(0, 0), true);
        Check.due("both are missing", x.tie(0, 0), false);
        Check.due("bags", Check.bags(x), "0 0 2 0 / 1 0 3 0");
        Check.due("status", x.count(11), 4);
        Check.due("trades are not ties", x.count(10), 0);
        TwoForOne y = Check.town("sorts 2;person;person has 0 2;tie 0 0 1;");
        Check.due("of one, twice", y.tie(1, 0), true);
        Check.due("bags", Check.bags(y), "0 0 / 0 1");
        Check.due("things", y.count(8), 1);
        Check.none("no such person", () -> x.tie(2, 0) ? 1 : 0);
        Check.none("no such person", () -> x.tie(-1, 0) ? 1 : 0);
        Check.none("no such tie", () -> x.tie(0, 3) ? 1 : 0);
        Check.none("no such tie", () -> x.tie(0, -1) ? 1 : 0);
        Check.none("no such tie", () -> x.tie(1, Integer.MAX_VALUE) ? 1 : 0);
        Check.due("status", x.count(11), 4);
        TwoForOne z = Check.town("sorts 3;person has 0 1 has 1 1;tie 1 0 2;");
        Check.due("the first is missing after it", z.tie(0, 0), true);
        Check.due("first missing", z.tie(0, 0), false);
        Check.end();
    }
}
