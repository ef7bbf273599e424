/** Promise 17: the bag that is kept. */
public final class Promise17Test {
    public static void main(String[] args) {
        TwoForOne x = Check.town("sorts 3;person has 0 3 has 1 3;person has 2 1 worth 0 50 worth 1 1 worth 2 60;");
        Check.none("none is kept yet", () -> x.bag(0));
        Check.due("two of sort 0", x.poor(0, 2), 2);
        Check.due("of sort 0", x.bag(0), 2);
        Check.due("of sort 1", x.bag(1), 0);
        Check.due("of sort 2", x.bag(2), 0);
        Check.none("no such sort", () -> x.bag(3));
        Check.none("no such sort", () -> x.bag(-1));
        Check.none("no such sort", () -> x.bag(Integer.MAX_VALUE));
        x.days(3);
        Check.due("a trade", x.trade(0, 1, 10, 2), true);
        Check.due("it stays", x.bag(0), 2);
        Check.due("none", x.poor(1, 2), -1);
        Check.due("it stays", x.bag(0), 2);
        Check.due("another one", x.poor(0, 2), 1);
        Check.due("of sort 0", x.bag(0), 0);
        Check.due("of sort 2", x.bag(2), 1);
        Check.end();
    }
}
