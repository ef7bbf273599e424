/** Promise 16: the poorest bag from which there is a way. */
public final class Promise16Test {
    public static void main(String[] args) {
        poorest();
        inOrder();
        othersAsTheyAre();
        manyBags();
        manyStates();
        wrongOnes();
        Check.end();
    }

    private static void poor(TwoForOne x, int person, int sort, int want, String bag) {
        String what = "poor " + person + " " + sort;
        Check.due(what, x.poor(person, sort), want);
        StringBuilder row = new StringBuilder();
        for (int s = 0; s < x.count(1); s++) {
            row.append(s > 0 ? " " : "").append(x.bag(s));
        }
        Check.due("bag of " + what, row.toString(), bag);
    }

    private static void poorest() {
        TwoForOne x = Check.town("sorts 4;law 1;person has 0 3 has 3 2;person has 1 1 worth 0 5;person has 2 1 worth 1 5;");
        poor(x, 0, 2, 1, "1 0 0 0");
        poor(x, 0, 3, 1, "0 0 0 1");
        Check.due("none", x.poor(2, 0), -1);
        Check.due("the bag stays", x.bag(3), 1);
        poor(x, 1, 2, 1, "0 1 0 0");
        Check.due("nothing changed", Check.bags(x), "3 0 0 2 / 0 1 0 0 / 0 0 1 0");
        TwoForOne y = Check.town("sorts 4;person has 0 9;tie 0 0 1;tie 1 1 2;tie 2 0 3;");
        poor(y, 0, 1, 2, "2 0 0 0");
        poor(y, 0, 2, 4, "4 0 0 0");
        poor(y, 0, 3, 5, "5 0 0 0");
        Check.none("no way is kept by it", () -> y.step(0, 0));
        TwoForOne nothing = Check.town("sorts 2;person;person has 0 1 has 1 3;");
        Check.due("of an empty bag", nothing.poor(0, 1), -1);
        Check.none("no bag", () -> nothing.bag(0));
    }

    private static void inOrder() {
        TwoForOne x = Check.town("sorts 3;person has 0 3 has 1 1;person has 2 1 worth 0 1 worth 1 50;");
        poor(x, 0, 2, 2, "1 1 0");
        TwoForOne y = Check.town("sorts 3;person has 0 3 has 1 3;person has 2 1 worth 0 50 worth 1 50;");
        poor(y, 0, 2, 2, "0 2 0");
        TwoForOne z = Check.town("sorts 3;person has 0 3 has 1 3;person has 2 1 worth 0 50 worth 1 1 worth 2 60;");
        poor(z, 0, 2, 2, "2 0 0");
        TwoForOne three = Check.town("sorts 4;law 3;person has 0 2 has 1 3 has 2 2;"
                + "person has 3 1 worth 0 20 worth 1 20 worth 2 1 worth 3 40;");
        poor(three, 0, 3, 3, "0 2 1 0");
        TwoForOne dear = Check.town("sorts 4;law 3;person has 0 2 has 1 3 has 2 2;"
                + "person has 3 1 worth 0 20 worth 1 20 worth 2 1 worth 3 41;");
        poor(dear, 0, 3, 3, "0 3 0 0");
        TwoForOne dearest = Check.town("sorts 4;law 3;person has 0 2 has 1 3 has 2 2;"
                + "person has 3 1 worth 0 21 worth 1 20 worth 2 1 worth 3 60;");
        poor(dearest, 0, 3, 3, "1 2 0 0");
        TwoForOne last = Check.town("sorts 4;law 3;person has 0 2 has 1 3 has 2 2;"
                + "person has 3 1 worth 0 22 worth 1 20 worth 2 19 worth 3 62;");
        poor(last, 0, 3, 3, "2 0 1 0");
    }

    private static void othersAsTheyAre() {
        TwoForOne x = Check.town("sorts 3;law 1;person has 0 2 has 2 1;person has 0 2 worth 0 3 falls 50;"
                + "person has 1 1 worth 0 3 falls 100;");
        poor(x, 0, 1, 1, "1 0 0");
        x.trade(0, 2, 1, 1);
        Check.due("the other has one now, which is all he wants", x.poor(1, 1), -1);
        poor(x, 0, 1, 1, "0 1 0");
        TwoForOne spoon = Check.town("sorts 3;law 2 spoon 0;person has 0 3 has 1 3;person has 2 1 worth 1 5;");
        poor(spoon, 0, 2, 2, "1 1 0");
    }

    private static void manyBags() {
        TwoForOne x = Check.town("sorts 3;person has 0 9 has 1 9;person;");
        Check.due("100 bags", x.poor(0, 2), -1);
        for (int k = 0; k < 5; k++) {
            Check.due("100 bags once more", x.poor(0, 2), -1);
        }
        TwoForOne few = Check.town("sorts 3;person has 0 9;person has 1 8;");
        for (int k = 0; k < 30; k++) {
            Check.due("10 bags once more", few.poor(0, 2), -1);
            Check.due("9 bags once more", few.poor(1, 2), -1);
        }
        TwoForOne y = Check.town("sorts 4;person has 0 16 has 1 5;person;");
        Check.due("102 bags", y.poor(0, 2), -2);
        TwoForOne z = Check.town("sorts 4;person has 0 20 has 1 20 has 2 20;" + "person has 0 20;".repeat(4));
        for (int other = 1; other <= 4; other++) {
            for (int k = 0; k < 10; k++) {
                Check.due("a trade", z.trade(other, 0, 10, other < 3 ? 1 : 2), true);
            }
        }
        Check.due("now he has", Check.bag(z, 0), "100 0 0 0");
        Check.due("101 bags", z.poor(0, 3), -2);
        Check.due("a trade", z.trade(0, 1, 10, 1), true);
        Check.due("a trade", z.trade(0, 1, 11, 0), false);
        Check.due("98 and 1 make 198 bags", z.poor(0, 3), -2);
        poor(z, 0, 1, 1, "0 1 0 0");
        Check.due("a trade", z.trade(2, 0, 20, 0), true);
        Check.due("97 and more", z.poor(0, 3), -2);
        Check.due("the bag stays", z.bag(1), 1);
    }

    private static void manyStates() {
        TwoForOne x = Check.town("sorts 6;person has 0 13;person has 0 3 has 1 2 has 2 2 worth 2 1 worth 3 1 worth 4 20;"
                + "person has 0 1 has 2 1 has 3 13 has 4 1 worth 0 11 worth 1 19 worth 2 4 worth 4 10 worth 5 18;"
                + "law 3;tie 3 5 2;tie 2 2 5;tie 0 0 2;tie 1 3 4;");
        poor(x, 0, 5, 1, "1 0 0 0 0 0");
        TwoForOne y = Check.town("sorts 7;person has 0 16;"
                + "person has 2 14 worth 0 17 worth 1 18 worth 3 1 worth 4 9 worth 5 18;"
                + "person has 1 2 has 2 7 has 4 2 has 5 3 worth 0 10 worth 2 11 worth 3 15 worth 4 19 worth 6 19;"
                + "law 3;tie 6 0 1;tie 1 4 0;tie 2 4 6;");
        Check.due("the answer is the 301st state", y.poor(0, 6), -2);
        Check.none("no bag", () -> y.bag(0));
        TwoForOne z = Check.town("sorts 3;person has 0 20;person worth 2 17;person has 1 13 worth 0 16 worth 1 4;tie 0 0 1;");
        Check.due("300 states, no way", z.poor(0, 2), -1);
        poor(z, 0, 0, 1, "1 0 0");
        TwoForOne spent = Check.town("sorts 6;person has 0 5 worth 0 17 worth 2 13;"
                + "person has 0 1 has 2 2 has 3 20 has 4 16 worth 0 3;tie 1 1 3;");
        poor(spent, 0, 0, 1, "1 0 0 0 0 0");
        Check.due("301 states", spent.poor(0, 5), -2);
        Check.due("the bag stays", spent.bag(0), 1);
    }

    private static void wrongOnes() {
        TwoForOne x = Check.town("sorts 2;person has 0 1;");
        Check.none("no such person", () -> x.poor(1, 0));
        Check.none("no such person", () -> x.poor(-1, 0));
        Check.none("no such sort", () -> x.poor(0, 2));
        Check.none("no such sort", () -> x.poor(0, -1));
    }
}
