/** Promise 2: twenty bytes come behind the tape, the highest of each number first. */
public final class Promise02Test {
    public static void main(String[] args) {
        bytesInOrder();
        behindTheTape();
        notMoreThanFits();
        allBytes();
        Check.end();
    }

    private static void bytesInOrder() {
        TwoForOne x = new TwoForOne();
        // "pers" "on h" "as 0" " 7; " "    "
        Check.due("feed", x.feed(0x70657273, 0x6F6E2068, 0x61732030, 0x20373B20, 0x20202020), 20);
        Check.due("bytes", x.count(7), 20);
        Check.due("town", x.town(20), 0);
        Check.due("has", x.has(0, 0), 7);
        Check.due("bytes behind a town", x.count(7), 0);
    }

    private static void behindTheTape() {
        TwoForOne x = new TwoForOne();
        Check.due("first", x.feed(0x70657273, 0x6F6E2068, 0x61732030, 0x2031373B, 0x20202020), 20);
        Check.due("second", x.feed(0x20202020, 0x20202020, 0x20706572, 0x736F6E20, 0x68617320), 40);
        Check.due("third", x.feed(0x30203B3B, 0, 0, 0, 0), 60);
        Check.due("the second person's number is missing", x.town(43), 1);
        Check.due("place", x.fault(), 42);
    }

    private static void notMoreThanFits() {
        TwoForOne x = new TwoForOne();
        int blanks = 0x20202020;
        for (int i = 1; i <= 34; i++) {
            Check.due("feed " + i, x.feed(blanks, blanks, blanks, blanks, blanks), 20 * i);
        }
        Check.due("feed 35", x.feed(blanks, blanks, blanks, 0x20706572, 0x736F6E3B), 700);
        Check.due("feed 36", x.feed(0x3B3B3B3B, 0, 0, 0, 0), -1);
        Check.due("feed 37", x.feed(blanks, blanks, blanks, blanks, blanks), -1);
        Check.due("bytes", x.count(7), 700);
        Check.due("town of all", x.town(700), 0);
        Check.due("people", x.count(0), 1);
        Check.due("feed behind it", x.feed(0, 0, 0, 0, 0), 20);
    }

    private static void allBytes() {
        TwoForOne x = new TwoForOne();
        Check.due("feed", x.feed(-1, -1, -1, -1, -1), 20);
        Check.due("town", x.town(20), 1);
        Check.due("place", x.fault(), 0);
        Check.due("feed", x.feed(0x20202020, 0x80202020, 0, 0, 0), 20);
        Check.due("town", x.town(20), 1);
        Check.due("place", x.fault(), 4);
    }
}
