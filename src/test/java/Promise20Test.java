/** Promise 20: a meeting of two. */
public final class Promise20Test {
    public static void main(String[] args) {
        TwoForOne x = Check.town("sorts 4;law 1;person has 0 1 has 1 1 worth 2 10 worth 3 10;"
                + "person has 2 1 has 3 1 worth 0 5 worth 1 7;");
        Check.due("the greatest gain, of like ones the first", x.meet(0, 1), 1700);
        Check.due("bags", Check.bags(x), "1 0 1 0 / 0 1 0 1");
        Check.due("the other one first", x.meet(1, 0), 1500);
        Check.due("bags", Check.bags(x), "0 0 1 1 / 1 1 0 0");
        Check.due("nothing more", x.meet(0, 1), 0);
        Check.due("bags", Check.bags(x), "0 0 1 1 / 1 1 0 0");
        Check.none("both are one", () -> x.meet(1, 1));
        Check.none("no such person", () -> x.meet(0, 2));
        Check.none("no such person", () -> x.meet(2, 0));
        Check.none("no such person", () -> x.meet(-1, 0));
        Check.none("no such person", () -> x.meet(0, -1));
        whoIsFirst();
        bothMustBeBetter();
        Check.end();
    }

    private static void whoIsFirst() {
        String text = "sorts 6;person has 0 1 has 1 1 has 2 1 worth 3 10 worth 4 5 worth 5 5;"
                + "person has 3 1 has 4 1 has 5 1 worth 0 5 worth 1 5 worth 2 10;";
        TwoForOne x = Check.town(text);
        Check.due("of like ones that of the first person", x.meet(1, 0), 2500);
        Check.due("bags", Check.bags(x), "0 1 0 1 0 0 / 1 0 1 0 1 1");
        TwoForOne y = Check.town(text.replace("worth 5 5", "worth 5 6"));
        Check.due("a better one of the second", y.meet(0, 1), 1600 + 1000);
        Check.due("bags", Check.bags(y), "1 1 0 1 0 1 / 0 0 1 0 1 0");
    }

    private static void bothMustBeBetter() {
        TwoForOne x = Check.town("sorts 2;law 1;person has 0 1 worth 1 99;person has 1 1 worth 0 3 worth 1 3;");
        Check.due("as well as before is not better", x.meet(0, 1), 0);
        TwoForOne y = Check.town("sorts 2;law 1;person has 0 1 worth 1 99;person has 1 1 worth 0 4 worth 1 3;");
        Check.due("better by little", y.meet(0, 1), 10000);
        TwoForOne z = Check.town("sorts 2;law 1;person has 0 1 worth 1 99;person has 1 1 worth 1 3;");
        Check.due("a loss to one", z.meet(1, 0), 0);
        TwoForOne w = Check.town("sorts 3;law 1;person has 0 1 has 2 1 worth 1 3;person has 1 1 worth 0 9;person has 2 1 worth 0 99;");
        Check.due("these two alone", w.meet(0, 1), 1200);
        Check.due("bags", Check.bags(w), "0 1 1 / 1 0 0 / 0 0 1");
        TwoForOne least = Check.town("sorts 2;law 2;person has 1 2 worth 0 3;person has 0 1 worth 1 3;");
        Check.due("sort 0 is given", least.meet(0, 1), 900);
        TwoForOne falls = Check.town("sorts 2;person has 0 3 worth 0 4 worth 1 5 falls 100;person has 1 2 worth 0 1 falls 0;");
        Check.due("what is worth nothing to him any more", falls.meet(0, 1), 700);
    }
}
