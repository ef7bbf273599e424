/** Promise 32: an image of who has what now. */
public final class Promise32Test {
    public static void main(String[] args) {
        TwoForOne x = Check.town("sorts 2;law 1;person has 0 3;person has 1 3;");
        x.image();
        Check.due("a trade", x.trade(0, 1, 1, 1), true);
        Check.due("bags", Check.bags(x), "2 1 / 1 2");
        Check.due("back", x.restore(), true);
        Check.due("bags", Check.bags(x), "3 0 / 0 3");
        Check.due("a trade", x.trade(0, 1, 1, 1), true);
        Check.due("a trade", x.trade(0, 1, 1, 1), true);
        x.image();
        Check.due("a trade", x.trade(0, 1, 1, 1), true);
        Check.due("back to the other image", x.restore(), true);
        Check.due("bags", Check.bags(x), "1 2 / 2 1");
        TwoForOne nobody = new TwoForOne();
        nobody.image();
        Check.due("an image of nobody", nobody.restore(), true);
        Check.end();
    }
}
