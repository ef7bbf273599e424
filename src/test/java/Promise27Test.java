/** Promise 27: sharing out all things anew. */
public final class Promise27Test {
    private static void share(String text, int least, int all, String row) {
        TwoForOne x = Check.town(text);
        String before = Check.bags(x);
        Check.due("least of " + text, x.share(0), least);
        Check.due("shared of " + text, shared(x), row);
        TwoForOne y = Check.town(text);
        Check.due("all of " + text, y.share(1), all);
        Check.due("shared of " + text, shared(y), row);
        Check.due("nothing changed", Check.bags(x), before);
    }

    static String shared(TwoForOne x) {
        StringBuilder row = new StringBuilder();
        for (int person = 0; person < x.count(0); person++) {
            row.append(person > 0 ? " / " : "");
            for (int sort = 0; sort < x.count(1); sort++) {
                row.append(sort > 0 ? " " : "").append(x.shared(person, sort));
            }
        }
        return row.toString();
    }

    public static void main(String[] args) {
        share("person has 0 2;person;", 0, 0, "2 / 0");
        share("person has 0 5 worth 0 3;", 1500, 1500, "5");
        share("person worth 0 1;person has 0 3 worth 0 1;", 100, 300, "2 / 1");
        share("person worth 0 1 falls 50;person has 0 3 worth 0 1;", 100, 300, "1 / 2");
        share("person worth 0 1;person has 0 4 worth 0 1;person worth 0 1;", 100, 400, "2 / 1 / 1");
        share("person worth 0 1;person has 0 6 worth 0 1;person worth 0 1;", 200, 600, "2 / 2 / 2");
        share("sorts 2;person has 0 1 has 1 1 worth 0 1 worth 1 2;person worth 0 1 worth 1 2;", 100, 300, "1 0 / 0 1");
        share("sorts 2;person has 0 1 has 1 1 worth 0 5 worth 1 5;person has 1 1 worth 1 5;", 500, 1500, "1 1 / 0 1");
        share("sorts 3;person;person;person has 2 1 has 0 1 worth 2 7;", 0, 700, "1 0 0 / 0 0 0 / 0 0 1");
        dayBehind();
        keptStays();
        tooMany();
        TwoForOne nobody = new TwoForOne();
        Check.due("no people", nobody.share(0), -1);
        Check.due("no people", nobody.share(1), -1);
        Check.none("no such what", () -> nobody.share(2));
        TwoForOne x = Check.town("person;");
        Check.none("no such what", () -> x.share(2));
        Check.none("no such what", () -> x.share(-1));
        Check.end();
    }

    private static void dayBehind() {
        String text = "sorts 3;person has 0 2 worth 1 10;person has 1 1 worth 0 4 pair 0 2 5;";
        share(text + "meet 0 1;", 800, 1800, "2 0 0 / 0 1 0");
        share(text, 800, 1800, "0 1 0 / 2 0 0");
        String unequal = "sorts 2;law 1;person has 0 1 worth 0 1 worth 1 5;person has 1 1 worth 0 5 worth 1 1;";
        share(unequal, 500, 1000, "0 1 / 1 0");
        share(unequal + "meet 1 0;", 500, 1000, "1 0 / 0 1");
    }

    private static void keptStays() {
        TwoForOne x = Check.town("sorts 3;person has 0 20 has 1 20 has 2 3;person worth 0 1;person;");
        Check.due("too many ways", x.share(0), -2);
        Check.none("none is kept", () -> x.shared(0, 0));
        TwoForOne y = Check.town("sorts 3;person has 0 20 has 1 20;person worth 0 1;tie 0 1 2;");
        Check.due("441 ways", y.share(1), 2000);
        Check.due("kept", shared(y), "0 20 0 / 20 0 0");
        for (int k = 0; k < 10; k++) {
            y.tie(0, 0);
        }
        Check.due("1331 ways", y.share(1), 1000);
        Check.due("kept", shared(y), "0 10 10 / 10 0 0");
        for (int k = 0; k < 5; k++) {
            y.tie(0, 0);
        }
        Check.due("576 ways", y.share(0), 0);
        Check.due("kept", shared(y), "0 5 15 / 5 0 0");
    }

    private static void tooMany() {
        TwoForOne x = Check.town("sorts 3;person has 0 14 has 1 9 has 2 9;person worth 0 1 worth 1 2;");
        Check.due("1500 ways", x.share(1), 1400 + 1800);
        Check.due("kept", shared(x), "0 0 9 / 14 9 0");
        Check.due("a trade", x.trade(0, 1, 10, 1), false);
        TwoForOne y = Check.town("sorts 3;person has 0 20 has 1 12 has 2 3;person has 0 8;");
        Check.due("1508 ways", y.share(1), -2);
        TwoForOne six = Check.town("person has 0 8;" + "person worth 0 1;".repeat(5));
        Check.due("1287 ways", six.share(1), 800);
        Check.due("kept", shared(six), "0 / 8 / 0 / 0 / 0 / 0");
        TwoForOne nine = Check.town("person has 0 9;" + "person worth 0 1;".repeat(5));
        Check.due("2002 ways", nine.share(1), -2);
        TwoForOne all = Check.town("sorts 8;" + "person has 0 20 has 1 20 has 2 20 has 3 20 has 4 20 has 5 20 has 6 20 has 7 20;"
                .repeat(6));
        Check.due("very many ways", all.share(0), -2);
        TwoForOne one = Check.town("sorts 8;person has 0 20 has 1 20 has 2 20 has 3 20 has 4 20 has 5 20 has 6 20 has 7 20 worth 7 1;");
        Check.due("one way", one.share(0), 2000);
    }
}
