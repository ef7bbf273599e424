/** Promise 21: so many days go by. */
public final class Promise21Test {
    static final String CHAIN = "sorts 3;law 1;person has 0 1 worth 0 1 worth 1 2 worth 2 3;person has 1 1 worth 1 1 worth 0 2;"
            + "person has 2 1 worth 2 1 worth 1 2;meet 0 2;meet 0 1;";

    public static void main(String[] args) {
        TwoForOne x = Check.town(CHAIN);
        Check.due("no day", x.days(0), 0);
        Check.due("bags", Check.bags(x), "1 0 0 / 0 1 0 / 0 0 1");
        Check.due("the first day", x.days(1), 1);
        Check.due("bags", Check.bags(x), "0 1 0 / 1 0 0 / 0 0 1");
        Check.due("the second day", x.days(1), 1);
        Check.due("bags", Check.bags(x), "0 0 1 / 1 0 0 / 0 1 0");
        Check.due("the third day", x.days(1), 0);
        TwoForOne y = Check.town(CHAIN);
        Check.due("60 days", y.days(60), 2);
        Check.due("bags", Check.bags(y), "0 0 1 / 1 0 0 / 0 1 0");
        TwoForOne z = Check.town(CHAIN.replace("meet 0 2;meet 0 1;", "meet 1 0;meet 2 0;"));
        Check.due("one meeting behind the other", z.days(1), 2);
        TwoForOne none = Check.town(CHAIN.replace("meet 0 2;meet 0 1;", ""));
        Check.due("no meetings", none.days(60), 0);
        TwoForOne many = Check.town("sorts 2;law 1;person has 0 20 worth 1 1;person has 1 20 worth 0 1;meet 0 1;meet 1 0;");
        Check.due("two a day", many.days(3), 6);
        Check.due("bags", Check.bags(many), "14 6 / 6 14");
        Check.due("till nothing is to be traded", many.days(60), 14);
        Check.bad("too many", () -> x.days(61));
        Check.bad("below 0", () -> x.days(-1));
        Check.bad("most", () -> x.days(Integer.MAX_VALUE));
        Check.bad("least", () -> x.days(Integer.MIN_VALUE));
        Check.end();
    }
}
