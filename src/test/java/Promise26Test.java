/** Promise 26: sitting still for some days. */
public final class Promise26Test {
    private static void still(TwoForOne x, int person, int d, int w, int worth) {
        Check.due("still " + person + " " + d + " 0", x.still(person, d, 0), w);
        Check.due("still " + person + " " + d + " 1", x.still(person, d, 1), worth);
    }

    public static void main(String[] args) {
        TwoForOne x = Check.town("sorts 3;law 1;person has 0 1 worth 0 1 worth 1 5 worth 2 9;"
                + "person has 1 1 worth 0 3 worth 1 1 worth 2 2;person has 2 1 worth 1 5 worth 2 1;meet 0 1;meet 1 2;");
        still(x, 0, 1, 1, 900);
        still(x, 0, 10, 1, 900);
        still(x, 1, 1, 0, 300);
        still(x, 2, 1, 0, 100);
        Check.due("nothing changed", Check.bags(x), "1 0 0 / 0 1 0 / 0 0 1");
        TwoForOne y = Check.town(Promise21Test.CHAIN);
        still(y, 0, 1, 0, 200);
        still(y, 0, 2, 0, 300);
        still(y, 1, 1, 0, 200);
        still(y, 2, 1, 1, 200);
        still(y, 2, 2, 0, 200);
        lateOnes();
        Check.none("no such person", () -> x.still(3, 1, 0));
        Check.none("no such person", () -> x.still(-1, 1, 0));
        Check.none("no such what", () -> x.still(0, 1, 2));
        Check.none("no such what", () -> x.still(0, 1, -1));
        Check.none("no such what is ahead of d", () -> x.still(0, 0, 2));
        Check.none("no such person is ahead of d", () -> x.still(3, 11, 0));
        Check.bad("no day", () -> x.still(0, 0, 0));
        Check.bad("too many days", () -> x.still(0, 11, 1));
        Check.bad("below 0", () -> x.still(0, -1, 1));
        Check.end();
    }

    /** Each day person 1 gets one more of what person 0 wants, and the last of them are worth most. */
    private static void lateOnes() {
        String text = "sorts 4;law 1;person has 0 1 worth 1 1 worth 2 9;person has 1 12 worth 0 50 worth 2 2 worth 1 1;"
                + "person has 2 12 worth 1 3 worth 2 1;";
        TwoForOne x = Check.town(text + "meet 0 1;meet 1 2;");
        still(x, 0, 1, 1, 900);
        String chain = "sorts 8;law 1;person has 0 1 worth 7 9;person has 1 DAYS has 7 1 worth 0 20 falls 0 worth 2 1 worth 7 30;"
                + "person has 2 DAYS has 3 1 worth 1 1;meet 0 1;meet 1 2;";
        TwoForOne never = Check.town(chain.replace("DAYS", "20"));
        still(never, 0, 10, 0, 0);
        // the eleventh day is the first on which person 1 gives what he wants: ten days of waiting, and one with him
        String late = "sorts 5;law 1;person has 0 1 worth 1 1 worth 2 9;person has 1 1 has 3 DAYS worth 0 50 worth 4 60 worth 3 1;"
                + "person has 4 DAYS has 2 1 worth 3 9 worth 4 1 worth 1 1;meet 0 1;meet 1 2;";
        still(Check.town(late.replace("DAYS", "9")), 0, 1, 0, 100);
        TwoForOne ten = Check.town("sorts 5;law 1;person has 0 1 worth 1 1 worth 2 9;"
                + "person has 1 1 has 3 9 worth 0 50 worth 4 60 worth 3 1 worth 2 2;"
                + "person has 4 9 has 2 1 worth 3 9 worth 4 1 worth 1 4;meet 0 1;meet 1 2;");
        still(ten, 0, 1, 10, 900);
        TwoForOne eleven = Check.town("sorts 5;law 1;person has 0 1 worth 1 1 worth 2 9;"
                + "person has 1 1 has 3 10 worth 0 50 worth 4 60 worth 3 1 worth 2 2;"
                + "person has 4 10 has 2 1 worth 3 9 worth 4 1 worth 1 4;meet 0 1;meet 1 2;");
        still(eleven, 0, 1, 0, 100);
    }
}
