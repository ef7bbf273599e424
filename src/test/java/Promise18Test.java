/** Promise 18: the most that all bags can come to be worth. */
public final class Promise18Test {
    public static void main(String[] args) {
        unwanted();
        tiesOfAll();
        firstComeTo();
        spent();
        Check.end();
    }

    private static void unwanted() {
        TwoForOne x = Check.town("sorts 3;person has 0 2 worth 0 1 worth 1 50;person has 1 1 worth 1 10;");
        Check.due("a loss to one", x.most(), 5000);
        Promise14Test.step(x, 0, 0, 1, 10, 1);
        Check.none("one step", () -> x.step(1, 0));
        Check.due("nothing changed", Check.bags(x), "2 0 0 / 0 1 0");
        TwoForOne y = Check.town("sorts 4;law 1;person has 0 1;person has 1 1;person has 2 1 worth 0 9;");
        Check.due("two others", y.most(), 900);
        Promise14Test.step(y, 0, 0, 2, 1, 2);
        TwoForOne z = Check.town("sorts 3;law 2;person has 0 1;person has 1 1 has 2 1;person has 0 1 has 1 2 worth 0 5 worth 2 7;");
        Check.due("three steps at most", z.most(), 1700);
    }

    private static void tiesOfAll() {
        TwoForOne x = Check.town("sorts 3;person;person has 0 2 has 1 1;person worth 2 9;tie 0 1 2;");
        Check.due("none for him", x.most(), 0);
        Check.none("no step", () -> x.step(0, 0));
        TwoForOne y = Check.town("sorts 4;law 1;person has 3 1;person has 0 2 has 1 1;person has 3 1 worth 2 9;tie 0 1 2;");
        Check.due("tied, then traded", y.most(), 900);
        Promise14Test.step(y, 0, 1, -1, 0, -1);
        Promise14Test.step(y, 1, 1, 2, 3, 3);
        TwoForOne z = Check.town("sorts 4;person has 0 4 worth 0 1 worth 1 2 worth 3 9;person has 0 2 worth 3 9 worth 1 1;"
                + "tie 0 0 1;tie 1 1 3;");
        Check.due("three ties", z.most(), 900 + 200);
        TwoForOne w = Check.town("sorts 2;person has 0 2 worth 0 1 worth 1 3;person has 0 2 worth 1 5;tie 0 0 1;");
        Check.due("each his own", w.most(), 800);
        Promise14Test.step(w, 0, 0, -1, 0, -1);
        Promise14Test.step(w, 1, 1, -1, 0, -1);
    }

    private static void firstComeTo() {
        TwoForOne now = Check.town("sorts 2;law 1;person has 0 1 worth 0 4;person has 1 1 worth 1 4;");
        Check.due("a way is kept", now.come(0, 0), 0);
        Check.due("as it is now", now.most(), 800);
        Check.none("no step", () -> now.step(0, 0));
        TwoForOne x = Check.town("sorts 3;law 1;person has 0 1;person has 1 1 worth 0 4;person has 2 1 worth 0 4;");
        Check.due("either of two", x.most(), 400);
        Promise14Test.step(x, 0, 0, 1, 1, 1);
        Check.none("one step", () -> x.step(1, 0));
        TwoForOne nobody = Check.town("sorts 3;");
        Check.due("no people", nobody.most(), 0);
        Check.none("no step", () -> nobody.step(0, 0));
    }

    private static void spent() {
        TwoForOne x = Check.town("sorts 6;person has 0 19 has 1 19 has 3 19 has 4 19 worth 2 1 worth 5 1;tie 0 1 2;tie 3 4 5;");
        Check.due("400 states", x.most(), 3800);
        Check.none("no step 38", () -> x.step(38, 0));
        Promise14Test.step(x, 0, 0, -1, 0, -1);
        Promise14Test.step(x, 18, 0, -1, 0, -1);
        Promise14Test.step(x, 19, 0, -1, 1, -1);
        Promise14Test.step(x, 37, 0, -1, 1, -1);
        TwoForOne y = Check.town("sorts 4;person has 0 10;person has 1 3 has 2 2 worth 0 1 worth 2 1;tie 2 1 0;tie 1 1 3;");
        Check.due("400 states by trades", y.most(), 1200);
        TwoForOne z = Check.town("sorts 3;person has 0 19 worth 0 19;person worth 2 3;person has 1 7 worth 0 12 worth 2 9;law 2;"
                + "tie 2 0 1;tie 2 2 0;tie 0 0 1;");
        Check.due("a way", z.come(0, 1), 1);
        Check.due("401 states", z.most(), -2);
        Promise14Test.step(z, 0, 0, 2, 10, 1);
    }
}
