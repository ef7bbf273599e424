/** Promise 30: the law by which the end is worth most. */
public final class Promise30Test {
    public static void main(String[] args) {
        Check.due("of like ones the least", Check.town("sorts 2;person has 0 1;").best(), 0);
        Check.due("two for one", Check.town("sorts 3;person has 0 2 worth 1 10;"
                + "person has 1 1 worth 0 4 pair 0 2 5;meet 0 1;").best(), 2);
        String three = "sorts 3;law 3;person has 0 4 has 2 2 worth 1 9;person has 1 6 worth 0 2 worth 1 1 worth 2 3;meet 0 1;";
        Check.due("one for one", Check.town(three).best(), 0);
        Check.due("the spoon alone for one", Check.town(three.replace("law 3", "law 3 spoon 2 burns")).best(), 0);
        Check.due("two for one, the spoon among them", Check.town(three.replace("worth 2 3", "worth 2 3 pair 0 2 99")
                .replace("law 3", "law 3 spoon 2")).best(), 2);
        firstOfTheGreatest(three);
        firstOfTheGreatest(BURNS);
        Check.due("burning is best", Check.town(BURNS).best(), 3);
        Check.due("by the best law", Check.town(BURNS).law(3, 1), 900 + 5000 + 9000);
        Check.due("nobody", new TwoForOne().best(), 0);
        Check.end();
    }

    private static void firstOfTheGreatest(String text) {
        TwoForOne x = Check.town(text);
        String before = Check.bags(x);
        int law = 0;
        for (int k = 1; k < 6; k++) {
            if (x.law(k, 1) > x.law(law, 1)) {
                law = k;
            }
        }
        Check.due("the first of the greatest", x.best(), law);
        Check.due("nothing changed", Check.bags(x), before);
        Check.due("the law stays", x.count(2), Check.town(text).count(2));
    }

    /** Person 1 keeps sort 0 for person 3 only where he has nothing to give away with it but what is dear to him. */
    private static final String BURNS = "sorts 6;law 1;person has 0 1 has 1 1 worth 2 9;"
            + "person has 2 1 has 4 1 worth 0 1 worth 3 2 worth 4 3 worth 5 50;person has 3 1 worth 0 9;"
            + "person has 5 1 worth 0 90;meet 0 1;meet 1 2;meet 1 3;";
}
