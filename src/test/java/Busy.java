/** A town in which there is something of all that a call could spoil. */
final class Busy {
    static final String TEXT = "sorts 3;person has 0 4 worth 1 10;person has 1 2 worth 0 4 pair 0 2 5;tie 0 1 2;meet 0 1;";

    private Busy() {
    }

    /** Of everything something is kept, each STATUS is 1, NOW is not the image. */
    static TwoForOne town() {
        TwoForOne x = Check.town(TEXT);
        Check.tell(x, "person;foo");
        Check.due("a way", x.come(0, 2), 2);
        Check.due("a bag", x.poor(0, 1), 1);
        Check.due("an order", x.order() > 0, true);
        Check.due("a share", x.share(0) > 0, true);
        x.image();
        Check.due("a trade", x.trade(0, 1, 10, 1), true);
        Check.due("no trade", x.trade(0, 1, 10, 2), false);
        Check.due("a tie", x.tie(1, 0), true);
        Check.due("no tie", x.tie(1, 0), false);
        return x;
    }

    /** The same, and the tape has 20 bytes. */
    static TwoForOne fed() {
        TwoForOne x = town();
        Check.due("bytes", x.feed(0x20202020, 0x20202020, 0x20202020, 0x20202020, 0x20202020), 20);
        return x;
    }

    /** Goes back to the image: it is as the town began. */
    static void imageIsThere(TwoForOne x) {
        Check.due("restore", x.restore(), true);
        Check.due("bags", Check.bags(x), "4 0 0 / 0 2 0");
    }
}
