/** Promise 29: the end, were it another law. */
public final class Promise29Test {
    private static void laws(TwoForOne x, int[] things, int[] worths) {
        for (int law = 0; law < 6; law++) {
            Check.due("things by " + law, x.law(law, 0), things[law]);
            Check.due("worth by " + law, x.law(law, 1), worths[law]);
        }
    }

    public static void main(String[] args) {
        TwoForOne x = Check.town("sorts 3;person has 0 2 worth 1 10;person has 1 1 worth 0 4 pair 0 2 5;meet 0 1;");
        laws(x, new int[] {3, 3, 3, 2, 3, 3}, new int[] {1400, 1400, 1800, 1400, 0, 0});
        Check.due("the law stays", x.count(2), 2);
        Check.due("nothing changed", Check.bags(x), "2 0 0 / 0 1 0");
        Check.due("its own", x.end(2), 1800);
        // two spoons for one thing please the other one more than a spoon and another thing; if they
        // burn by three, one spoon is as good as two, and there are two trades
        TwoForOne y = Check.town("sorts 3;law 3 spoon 2 burns;person has 0 4 has 2 2 worth 1 9;"
                + "person has 1 6 worth 0 2 worth 1 1 worth 2 3;meet 0 1;");
        laws(y, new int[] {12, 12, 12, 11, 12, 8}, new int[] {
            2 * 900 + 4 * 100 + 2 * 300, 2 * 900 + 4 * 100 + 2 * 300,
            900 + 5 * 100 + 2 * 300, 900 + 5 * 100 + 300,
            900 + 5 * 100 + 200 + 2 * 300, 2 * 900 + 4 * 100 + 2 * 200});
        Check.due("its own", y.end(1), 8);
        Check.due("the spoon stays", y.count(3), 2);
        Check.due("it burns", y.count(4), 1);
        x.days(1);
        laws(x, new int[] {3, 3, 3, 3, 3, 3}, new int[] {1800, 1800, 1800, 1800, 1800, 1800});
        Check.none("no such law", () -> x.law(6, 0));
        Check.none("no such law", () -> x.law(-1, 0));
        Check.none("no such what", () -> x.law(0, 2));
        Check.none("no such what", () -> x.law(0, -1));
        Check.due("looks go on by the told law", x.look(1, 0, 10, 1, 0), 1);
        Check.end();
    }
}
