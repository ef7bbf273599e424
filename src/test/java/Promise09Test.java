/** Promise 9: of each sort what all have. */
public final class Promise09Test {
    public static void main(String[] args) {
        TwoForOne x = Check.town("sorts 3;law 2 burns;person has 0 5 has 2 1;person has 0 20;person has 1 9;");
        Check.due("left 0", x.left(0), 25);
        Check.due("left 1", x.left(1), 9);
        Check.due("left 2", x.left(2), 1);
        Check.due("a trade that burns", x.trade(0, 2, 10, 1), true);
        Check.due("left 0", x.left(0), 24);
        Check.due("left 1", x.left(1), 9);
        Check.none("no such sort", () -> x.left(3));
        Check.none("no such sort", () -> x.left(-1));
        Check.end();
    }
}
