/** Promise 8: worth of a bag, in hundredths; of all bags. */
public final class Promise08Test {
    private static void worth(String of, int want) {
        TwoForOne x = Check.town("sorts 3;person " + of + ";");
        Check.due("worth of " + of, x.worth(0), want);
        Check.due("worth of all: " + of, x.worth(-1), want);
    }

    public static void main(String[] args) {
        worth("", 0);
        worth("has 0 3", 0);
        worth("worth 0 3", 0);
        worth("has 0 3 worth 0 7", 2100);
        worth("has 0 20 worth 0 99", 198000);
        // 10 by 100, 60, 20, then nothing
        worth("has 0 1 worth 0 10 falls 40", 1000);
        worth("has 0 2 worth 0 10 falls 40", 1600);
        worth("has 0 3 worth 0 10 falls 40", 1800);
        worth("has 0 4 worth 0 10 falls 40", 1800);
        worth("has 0 20 worth 0 10 falls 40", 1800);
        worth("has 0 5 worth 0 10 falls 100", 1000);
        worth("has 0 3 worth 0 10 falls 99", 1010);
        worth("has 0 3 worth 0 10 falls 50", 1500);
        worth("has 0 3 worth 0 10 falls 51", 1490);
        worth("has 0 20 worth 0 1 falls 1", 1810);
        worth("has 0 2 has 1 1 has 2 3 worth 0 5 worth 1 7 worth 2 1 falls 10", 950 + 700 + 270);
        worth("has 0 2 has 1 5 pair 0 1 9", 900);
        worth("has 0 2 has 1 5 pair 1 0 9 pair 0 1 9 pair 0 2 50", 1800);
        worth("has 1 5 pair 0 1 9", 0);
        worth("has 0 5 pair 0 1 9", 0);
        worth("has 0 1 has 1 1 worth 0 3 pair 0 1 9 falls 100", 1200);
        moreThanHundred();
        TwoForOne x = Check.town("person has 0 1 worth 0 3;person has 0 2 worth 0 4;person;");
        Check.due("first", x.worth(0), 300);
        Check.due("second", x.worth(1), 800);
        Check.due("third", x.worth(2), 0);
        Check.due("all", x.worth(TwoForOne.NONE), 1100);
        Check.none("no such person", () -> x.worth(3));
        Check.none("no such person", () -> x.worth(-2));
        Check.none("no such person", () -> x.worth(Integer.MAX_VALUE));
        Check.end();
    }

    /** By falls of 1 the hundredth is worth one hundredth, and those behind it nothing. */
    private static void moreThanHundred() {
        TwoForOne x = Check.town("sorts 3;law 3;person has 0 20 has 1 20 has 2 20 worth 0 1 falls 1;"
                + "person has 0 20;".repeat(5));
        int given = 1 * 81 + 1 * 9 + 1;
        int has = 20;
        int worth = 1810;
        for (int k = 0; k < 30; k++) {
            Check.due("a trade", x.trade(1 + k / 6, 0, given, k < 20 ? 1 : 2), true);
            for (int i = 0; i < 3; i++) {
                worth += Math.max(0, 100 - has);
                has++;
            }
            Check.due("worth of " + has, x.worth(0), worth);
        }
        Check.due("has", x.has(0, 0), 110);
        Check.due("worth of 110", x.worth(0), 5050);
    }
}
