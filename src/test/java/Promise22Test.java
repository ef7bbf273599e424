/** Promise 22: the end, till a day changes nothing. */
public final class Promise22Test {
    public static void main(String[] args) {
        TwoForOne x = Check.town(Promise21Test.CHAIN);
        int[] ends = {2, 3, 700, 300, 200, 200};
        for (int what = 0; what < ends.length; what++) {
            Check.due("end " + what, x.end(what), ends[what]);
        }
        Check.due("nothing changed", Check.bags(x), "1 0 0 / 0 1 0 / 0 0 1");
        Check.none("no such person", () -> x.end(6));
        Check.none("below 0", () -> x.end(-1));
        Check.none("most", () -> x.end(Integer.MAX_VALUE));
        Check.none("least", () -> x.end(Integer.MIN_VALUE));
        x.days(1);
        Check.due("from now on", x.end(0), 1);
        x.days(1);
        Check.due("at the end", x.end(0), 0);
        Check.due("worth of all then", x.end(2), 700);
        sixtyDays();
        burnt();
        Check.end();
    }

    /** Three bags of twenty take sixty days at one thing a day. */
    private static void sixtyDays() {
        String text = "sorts 6;law 1;person has 0 20 has 1 20 has 2 20 worth 3 1 worth 4 1 worth 5 1;"
                + "person has 3 20 has 4 20 has 5 20 worth 0 1 worth 1 1 worth 2 1;meet 0 1;";
        TwoForOne x = Check.town(text);
        Check.due("60 days", x.end(0), 60);
        Check.due("worth of all", x.end(2), 12000);
        Check.due("59 days", x.days(59), 59);
        Check.due("the last one", x.end(0), 1);
        TwoForOne y = Check.town(text.replace("sorts 6", "sorts 8").replace("person has 0 20", "person has 6 20 worth 7 1 has 0 20")
                .replace("person has 3 20", "person has 7 20 worth 6 1 has 3 20"));
        Check.due("no more than 60", y.end(0), 60);
        Check.due("worth of all", y.end(2), 12000);
        Check.due("60 days", y.days(60), 60);
        Check.due("20 more", y.end(0), 20);
    }

    private static void burnt() {
        TwoForOne x = Check.town("sorts 2;law 3 burns;person has 0 7 worth 1 9;person has 1 5 worth 0 2 worth 1 1;meet 0 1;");
        Check.due("two days", x.end(0), 2);
        Check.due("things left", x.end(1), 12 - 4);
        Check.due("worth of all", x.end(2), 1800 + 700);
        Check.due("of the first", x.end(3), 1800);
        Check.due("of the second", x.end(4), 700);
        TwoForOne nobody = new TwoForOne();
        Check.due("days of nobody", nobody.end(0), 0);
        Check.due("things of nobody", nobody.end(1), 0);
        Check.due("worth of nobody", nobody.end(2), 0);
        Check.none("nobody", () -> nobody.end(3));
    }
}
