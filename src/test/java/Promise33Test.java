/** Promise 33: as the image again. */
public final class Promise33Test {
    public static void main(String[] args) {
        TwoForOne x = Check.town("sorts 3;law 2 burns;person has 0 4;person has 1 3;tie 0 0 2;");
        Check.due("there is none", x.restore(), false);
        Check.due("a trade", x.trade(0, 1, 10, 1), true);
        Check.due("there is none", x.restore(), false);
        Check.due("bags", Check.bags(x), "2 1 0 / 1 2 0");
        x.image();
        Check.due("a way", x.come(0, 2), 1);
        Check.due("a tie", x.tie(0, 0), true);
        Check.due("no tie", x.tie(0, 0), false);
        Check.due("all is back", x.restore(), true);
        Check.due("bags", Check.bags(x), "2 1 0 / 1 2 0");
        Check.due("things", x.count(8), 6);
        Check.due("status is not", x.count(11), 1);
        Check.due("the way stays", x.step(0, 1), -1);
        Check.due("a tie", x.tie(0, 0), true);
        Check.due("once more", x.restore(), true);
        Check.due("bags", Check.bags(x), "2 1 0 / 1 2 0");
        Check.due("a fault", Check.tell(x, "foo"), 1);
        Check.due("the image stays", x.restore(), true);
        Check.due("the tape", x.count(7), 0);
        Check.due("a town", Check.tell(x, "sorts 3;person has 0 1;"), 0);
        Check.due("the image is gone", x.restore(), false);
        Check.due("bags", Check.bags(x), "1 0 0");
        Check.end();
    }
}
