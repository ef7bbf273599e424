/** Promise 25: a day seen from its end. */
public final class Promise25Test {
    private static void ahead(String text, int... worths) {
        TwoForOne x = Check.town(text);
        String before = Check.bags(x);
        for (int person = 0; person < worths.length; person++) {
            Check.due("ahead " + person + " of " + text, x.ahead(person), worths[person]);
        }
        Check.due("nothing changed", Check.bags(x), before);
    }

    public static void main(String[] args) {
        ahead("person;", 0);
        ahead("person has 0 2 worth 0 3;person has 0 1;", 600, 0);
        ahead(Promise21Test.CHAIN, 200, 200, 100);
        laterIsBetter();
        nowIsWorse();
        theFirstOneChooses();
        firstOfLikeOnes();
        tooMuch();
        TwoForOne x = Check.town("person;person;meet 0 1;");
        Check.none("no such person", () -> x.ahead(2));
        Check.none("no such person", () -> x.ahead(-1));
        TwoForOne nobody = new TwoForOne();
        Check.none("nobody", () -> nobody.ahead(0));
        Check.end();
    }

    private static void laterIsBetter() {
        String text = "sorts 3;law 1;person has 0 1 worth 0 1 worth 1 5 worth 2 9;person has 1 1 worth 0 9;"
                + "person has 2 1 worth 0 9;meet 0 1;meet 0 2;";
        ahead(text, 900, 0, 900);
        TwoForOne x = Check.town(text);
        Check.due("a day does not look ahead", x.days(1), 1);
        Check.due("worth", x.worth(0), 500);
    }

    private static void nowIsWorse() {
        ahead("sorts 3;law 1;person has 0 1 worth 1 5;person has 1 1 worth 1 1 worth 2 9;person has 2 1 worth 0 7;"
                + "meet 0 1;meet 1 2;", 500, 900, 700);
        // as well as by none is not better: for the first, for the second
        ahead("sorts 2;law 1;person has 0 1 worth 0 5 worth 1 5;person has 1 1 worth 0 9;meet 0 1;", 500, 0);
        ahead("sorts 2;law 1;person has 0 1 worth 1 5;person has 1 1 worth 0 9 worth 1 9;meet 0 1;", 0, 900);
        ahead("sorts 2;law 1;person has 0 1 worth 0 6 worth 1 5;person has 1 1 worth 0 9;meet 0 1;", 600, 0);
        ahead("sorts 2;law 1;person has 0 1 worth 0 5 worth 1 6;person has 1 1 worth 0 9 worth 1 8;meet 1 0;", 600, 900);
    }

    private static void theFirstOneChooses() {
        String text = "sorts 4;law 1;person has 0 1 has 1 1 worth 2 9 worth 3 5;"
                + "person has 2 1 has 3 1 worth 0 9 worth 1 9 worth 2 8 worth 3 1;";
        ahead(text + "meet 1 0;", 500, 1700);
        ahead(text + "meet 0 1;", 900, 1000);
        ahead(text + "meet 0 1;meet 0 1;", 1400, 1800);
    }

    /** Person 1 can give one of two for what he wants; the next one wants the second alone. */
    private static void firstOfLikeOnes() {
        String text = "sorts 4;law 1;person has 2 1 worth 0 5 worth 1 5;person has 0 1 has 1 1 worth 2 9;"
                + "person has 3 1 worth 1 9;";
        ahead(text + "meet 0 1;", 500, 900, 0);
        // person 1 keeps sort 1, so person 2 would have it; but nothing of his is wanted by him
        ahead(text + "meet 0 1;meet 1 2;", 500, 900, 0);
        ahead(text.replace("worth 2 9", "worth 2 9 worth 3 1") + "meet 0 1;meet 1 2;", 500, 1000, 900);
        ahead(text.replace("worth 2 9", "worth 2 9 worth 3 1").replace("worth 1 9;", "worth 0 9;") + "meet 0 1;meet 1 2;",
                500, 900, 0);
        ahead(text.replace("worth 2 9", "worth 2 9 worth 3 1").replace("worth 1 9;", "worth 0 9;") + "meet 1 0;meet 1 2;",
                500, 1000, 900);
    }

    private static void tooMuch() {
        ahead("sorts 7;person has 1 1 has 2 1 has 3 1 has 5 12;"
                + "person has 0 15 has 1 3 has 3 3 has 4 1 worth 0 4 worth 1 1 worth 3 5;meet 0 1;meet 1 0;meet 1 0;", 0, 7800);
        ahead("sorts 7;person has 0 8 has 2 2 has 3 2 has 4 13;"
                + "person has 1 15 worth 0 17 worth 1 12 worth 2 11 worth 4 2 worth 5 9 worth 6 4;"
                + "person has 2 2 worth 1 4 worth 2 17 worth 5 19;meet 2 1;meet 1 2;meet 2 0;meet 0 2;meet 0 2;", -2, -2, -2);
        ahead("sorts 2;person has 0 1 worth 0 3;person has 1 1;" + "meet 0 1;".repeat(8), 300, 0);
    }
}
