/** Promise 24: the order that is kept. */
public final class Promise24Test {
    public static void main(String[] args) {
        TwoForOne x = Check.town(Promise21Test.CHAIN);
        Check.none("none is kept yet", () -> x.ordered(0));
        x.order();
        Check.due("the first", x.ordered(0), 1);
        Check.due("the second", x.ordered(1), 0);
        Check.none("there are two", () -> x.ordered(2));
        Check.none("below 0", () -> x.ordered(-1));
        Check.none("most", () -> x.ordered(Integer.MAX_VALUE));
        x.days(9);
        x.share(0);
        x.most();
        x.best();
        Check.due("it stays", x.ordered(0), 1);
        x.order();
        Check.due("another one", x.ordered(0), 0);
        Check.tell(x, "person;");
        Check.none("gone with the town", () -> x.ordered(0));
        Check.end();
    }
}
