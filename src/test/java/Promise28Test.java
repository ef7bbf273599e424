/** Promise 28: what one gets by the share that is kept. */
public final class Promise28Test {
    public static void main(String[] args) {
        TwoForOne x = Check.town("sorts 2;person worth 0 1 worth 1 1;person has 0 3 has 1 1 worth 0 1;");
        Check.none("none is kept yet", () -> x.shared(0, 0));
        Check.due("two each", x.share(0), 200);
        Check.due("first", x.shared(0, 0), 1);
        Check.due("first", x.shared(0, 1), 1);
        Check.due("second", x.shared(1, 0), 2);
        Check.due("second", x.shared(1, 1), 0);
        Check.none("no such person", () -> x.shared(2, 0));
        Check.none("no such person", () -> x.shared(-1, 0));
        Check.none("no such sort", () -> x.shared(0, 2));
        Check.none("no such sort", () -> x.shared(0, -1));
        x.trade(1, 0, 10, 1);
        x.days(5);
        x.order();
        Check.due("it stays", x.shared(1, 0), 2);
        Check.tell(x, "foo");
        Check.due("it stays behind a fault", x.shared(1, 0), 2);
        Check.tell(x, "sorts 2;person;person;");
        Check.none("gone with the town", () -> x.shared(0, 0));
        Check.end();
    }
}
