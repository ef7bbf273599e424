/** Promise 19: what the worth of all can't be more than. */
public final class Promise19Test {
    public static void main(String[] args) {
        TwoForOne x = Check.town("sorts 3;person has 0 2 worth 1 10 falls 50 pair 0 1 3 pair 0 1 3;"
                + "person has 1 1 has 0 1 worth 0 4 worth 1 2 pair 0 2 5;person has 2 7 falls 100;");
        Check.due("freely", x.freely(), 3 * 400 + 1000 + 300 + 300 + 500);
        x.image();
        Check.due("a trade", x.trade(0, 1, 10, 1), true);
        Check.due("as before", x.freely(), 3300);
        TwoForOne burnt = Check.town("sorts 2;law 2 burns;person has 0 2;person has 1 1 worth 0 4 worth 1 7;person worth 0 9;");
        Check.due("freely", burnt.freely(), 1800 + 700);
        Check.due("a trade", burnt.trade(0, 1, 10, 1), true);
        Check.due("one is gone", burnt.freely(), 900 + 700);
        TwoForOne tied = Check.town("sorts 2;person has 0 2 worth 1 5;tie 0 0 1;");
        Check.due("without ties", tied.freely(), 0);
        Check.due("a tie", tied.tie(0, 0), true);
        Check.due("behind one", tied.freely(), 500);
        Check.due("nothing", Check.town("sorts 2;person;").freely(), 0);
        Check.due("pairs alone", Check.town("sorts 2;person pair 0 1 9;person pair 1 0 1;").freely(), 1000);
        Check.end();
    }
}
