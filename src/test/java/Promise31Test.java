/** Promise 31: meetings by a seed. */
public final class Promise31Test {
    private static final String TOWN = "sorts 5;law 1;person has 0 9 has 1 3 worth 2 9 worth 3 4 falls 10;"
            + "person has 2 7 has 1 5 worth 0 8 worth 4 5 falls 20;person has 3 9 worth 0 3 worth 1 6 worth 2 7 falls 5;"
            + "person has 4 9 worth 3 9 worth 1 2 worth 0 1;person has 0 4 has 3 2 worth 4 9 worth 2 3 falls 40;";

    public static void main(String[] args) {
        for (int seed : new int[] {0, 1, -1, 5, 12345, -987654321, Integer.MAX_VALUE, Integer.MIN_VALUE}) {
            for (int meetings : new int[] {0, 1, 2, 3, 10, 60, 400}) {
                asByHand(meetings, seed);
            }
        }
        known();
        TwoForOne x = Check.town(TOWN);
        Check.bad("too many", () -> x.run(401, 1));
        Check.bad("below 0", () -> x.run(-1, 1));
        Check.bad("most", () -> x.run(Integer.MAX_VALUE, 1));
        Check.due("nothing changed", Check.bags(x), Check.bags(Check.town(TOWN)));
        TwoForOne one = Check.town("person;");
        Check.bad("one alone", () -> one.run(1, 1));
        Check.bad("one alone, none", () -> one.run(0, 1));
        Check.bad("nobody", () -> new TwoForOne().run(0, 1));
        Check.due("two", Check.town("person;person;").run(400, 1), 0);
        Check.end();
    }

    private static void asByHand(int meetings, int seed) {
        TwoForOne x = Check.town(TOWN);
        TwoForOne y = Check.town(TOWN);
        int made = 0;
        long s = seed & 0xffffffffL;
        for (int k = 0; k < meetings; k++) {
            s = (s * 1103515245L + 12345) & 0xffffffffL;
            int a = (int) (s / 65536 % 32768 % 5);
            s = (s * 1103515245L + 12345) & 0xffffffffL;
            int b = (int) (s / 65536 % 32768 % 4);
            made += y.meet(a, b < a ? b : b + 1) > 0 ? 1 : 0;
        }
        Check.due("run " + meetings + " " + seed, x.run(meetings, seed), made);
        Check.due("bags behind run " + meetings + " " + seed, Check.bags(x), Check.bags(y));
    }

    /** By seed 1 the first draws are 16838 and 5758, as they are known of this way to draw. */
    private static void known() {
        String six = "sorts 2;law 1;" + "person has 0 1 worth 1 1;".repeat(2) + "person has 1 1 worth 0 1;"
                + "person has 0 1 worth 1 1;".repeat(3);
        TwoForOne x = Check.town(six);
        // 16838 of 6 is 2, 5758 of 5 is 3, so 4
        Check.due("one trade", x.run(1, 1), 1);
        Check.due("bags", Check.bags(x), "1 0 / 1 0 / 1 0 / 1 0 / 0 1 / 1 0");
    }
}
