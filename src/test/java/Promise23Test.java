/** Promise 23: the best order of a day. */
public final class Promise23Test {
    public static void main(String[] args) {
        TwoForOne x = Check.town(Promise21Test.CHAIN);
        Check.due("the other order", x.order(), 700);
        ordered(x, 1, 0);
        Check.due("nothing changed", Check.bags(x), "1 0 0 / 0 1 0 / 0 0 1");
        x.days(2);
        Check.due("behind the end", x.order(), 700);
        ordered(x, 0, 1);
        five();
        six();
        alike();
        Check.due("nobody", new TwoForOne().order(), 0);
        Check.end();
    }

    private static void ordered(TwoForOne x, int... row) {
        for (int i = 0; i < row.length; i++) {
            Check.due("ordered " + i, x.ordered(i), row[i]);
        }
        Check.none("behind the last", () -> x.ordered(row.length));
    }

    /** A thing goes from hand to hand, each time against a better one of another's. */
    private static final String HANDS = "sorts 6;law 1;person has 0 1 worth 5 50;person has 1 1 worth 0 9;person has 2 1 worth 1 9;"
            + "person has 3 1 worth 2 9;person has 4 1 worth 3 9;person has 5 1 worth 4 9;";

    private static void five() {
        // person 0 wants 1, 2 .. 5, each more; each of the others wants what he has then
        String text = "sorts 6;law 1;person has 0 1 worth 1 1 worth 2 2 worth 3 3 worth 4 4 worth 5 5;"
                + "person has 1 1 worth 0 9;person has 2 1 worth 1 9;person has 3 1 worth 2 9;person has 4 1 worth 3 9;"
                + "person has 5 1 worth 4 9;";
        TwoForOne x = Check.town(text + "meet 0 4;meet 0 2;meet 5 0;meet 1 0;meet 0 3;");
        Check.due("from one to the other", x.order(), 500 + 5 * 900);
        ordered(x, 3, 1, 4, 0, 2);
        TwoForOne y = Check.town(text + "meet 0 5;meet 0 4;meet 0 3;meet 0 2;meet 0 1;");
        Check.due("the last order of all", y.order(), 500 + 5 * 900);
        ordered(y, 4, 3, 2, 1, 0);
        TwoForOne z = Check.town(text + "meet 0 1;meet 0 2;meet 0 3;meet 0 4;meet 0 5;");
        Check.due("the first order of all", z.order(), 500 + 5 * 900);
        ordered(z, 0, 1, 2, 3, 4);
        TwoForOne w = Check.town(text + "meet 0 3;meet 0 2;meet 0 1;meet 0 2;");
        Check.due("of like ones the first", w.order(), 300 + 3 * 900);
        ordered(w, 1, 2, 3, 0);
    }

    private static void six() {
        TwoForOne x = Check.town(Promise21Test.CHAIN.replace("meet 0 2;", "meet 0 2;".repeat(5)));
        Check.due("six meetings", x.order(), -1);
        Check.none("none is kept", () -> x.ordered(0));
        TwoForOne y = Check.town(Promise21Test.CHAIN.replace("meet 0 2;", "meet 0 2;".repeat(7)));
        Check.due("eight meetings", y.order(), -1);
        TwoForOne z = Check.town(Promise21Test.CHAIN.replace("meet 0 2;", "meet 0 2;".repeat(4)));
        Check.due("five meetings", z.order(), 700);
        ordered(z, 0, 1, 2, 4, 3);
    }

    private static void alike() {
        TwoForOne x = Check.town(HANDS + "meet 1 2;meet 3 4;meet 0 1;");
        Check.due("nothing is wanted", x.order(), 0);
        ordered(x, 0, 1, 2);
        TwoForOne y = Check.town(HANDS);
        Check.due("no meetings", y.order(), 0);
        Check.none("an empty row", () -> y.ordered(0));
    }
}
