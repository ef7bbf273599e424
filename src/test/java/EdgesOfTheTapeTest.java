/** Promises 1 to 4: a new object, the tape, how many bytes are read, where a fault is; each boundary case by itself. */
public final class EdgesOfTheTapeTest {
    private static final int BLANKS = 0x20202020;
    private static final int[] FAR = {Integer.MIN_VALUE, Integer.MIN_VALUE + 1, -701, -21, -20, -2, -1};

    private static TwoForOne blanks(int feeds) {
        TwoForOne x = new TwoForOne();
        for (int i = 0; i < feeds; i++) {
            x.feed(BLANKS, BLANKS, BLANKS, BLANKS, BLANKS);
        }
        return x;
    }

    public static void main(String[] args) {
        newObject();
        feed();
        feedFull();
        bytes();
        howMany();
        emptyThen();
        place();
        lastCall();
        Check.end();
    }

    private static void newObject() {
        int[] counts = {0, 1, 2, -1, 0, 0, 0, 0, 0, 0, 0, 0};
        String[] names = {"no PEOPLE", "one SORT", "g is 2 at first", "no SPOON at first", "it does not burn at first", "no TIES",
            "no MEETINGS", "an empty tape", "no things", "no text refused", "no trade refused", "no tie refused"};
        for (int k = 0; k < counts.length; k++) {
            int what = k;
            Check.edge("1 a new object: " + names[k], () -> Check.due("count", new TwoForOne().count(what), counts[what]));
        }
        Check.edge("1 a new object: no FAULT", () -> Check.due("fault", new TwoForOne().fault(), -1));
        Check.edge("1 a new object: its one SORT, of which there is nothing", () -> Check.due("left", new TwoForOne().left(0), 0));
        Check.edge("1 a new object: no second SORT", () -> Check.none("left", () -> new TwoForOne().left(1)));
        Check.edge("1 a new object: all bags are worth 0", () -> Check.due("worth", new TwoForOne().worth(-1), 0));
        Check.edge("1 a new object: no PERSON", () -> {
            TwoForOne x = new TwoForOne();
            Check.none("has", () -> x.has(0, 0));
            Check.none("likes", () -> x.likes(0, 0));
            Check.none("worth", () -> x.worth(0));
            Check.none("come", () -> x.come(0, 0));
            Check.none("poor", () -> x.poor(0, 0));
            Check.none("ahead", () -> x.ahead(0));
            Check.none("end", () -> x.end(3));
            Check.none("still", () -> x.still(0, 1, 0));
            Check.none("meet", () -> x.meet(0, 1));
            Check.none("tie", () -> x.tie(0, 0) ? 1 : 0);
            Check.none("look", () -> x.look(0, 1, 10, 0, 0));
            Check.none("trade", () -> x.trade(0, 1, 10, 0) ? 1 : 0);
        });
        Check.edge("1 a new object: no MEETING", () -> Check.none("meeting", () -> new TwoForOne().meeting(0, 0)));
        Check.edge("1 a new object: nothing is kept, no image", () -> {
            TwoForOne x = new TwoForOne();
            Check.none("step", () -> x.step(0, 0));
            Check.none("bag", () -> x.bag(0));
            Check.none("ordered", () -> x.ordered(0));
            Check.none("shared", () -> x.shared(0, 0));
            Check.due("restore", x.restore(), false);
        });
        Check.edge("1 a new object: what is asked of no PEOPLE", () -> {
            TwoForOne x = new TwoForOne();
            Check.due("most", x.most(), 0);
            Check.due("freely", x.freely(), 0);
            Check.due("order", x.order(), 0);
            Check.due("share", x.share(0), -1);
            Check.due("share", x.share(1), -1);
            Check.due("best", x.best(), 0);
            Check.due("days", x.days(60), 0);
            Check.due("end", x.end(0) + x.end(1) + x.end(2), 0);
            for (int law = 0; law < 6; law++) {
                Check.due("law", x.law(law, 0) + x.law(law, 1), 0);
            }
        });
    }

    private static void feed() {
        Check.edge("2 the first feed: 20", () -> Check.due("feed", new TwoForOne().feed(0, 0, 0, 0, 0), 20));
        Check.edge("2 each feed has twenty more", () -> {
            TwoForOne x = new TwoForOne();
            for (int i = 1; i <= 35; i++) {
                Check.due("feed " + i, x.feed(i, -i, 0, Integer.MAX_VALUE, Integer.MIN_VALUE), 20 * i);
                Check.due("bytes", x.count(7), 20 * i);
            }
        });
        // one byte that is no token, at each place of twenty and of the next twenty: the fault is there
        for (int k = 0; k < 40; k++) {
            int at = k;
            Check.edge("2 of each number the highest byte first: byte " + k, () -> {
                TwoForOne x = new TwoForOne();
                for (int from = 0; from < 40; from += 20) {
                    int[] five = {BLANKS, BLANKS, BLANKS, BLANKS, BLANKS};
                    if (at >= from && at < from + 20) {
                        int shift = 24 - 8 * (at % 4);
                        five[(at - from) / 4] = BLANKS & ~(255 << shift) | 0x80 << shift;
                    }
                    x.feed(five[0], five[1], five[2], five[3], five[4]);
                }
                Check.due("town", x.town(40), 1);
                Check.due("fault", x.fault(), at);
            });
        }
        Check.edge("2 the numbers one behind the other", () -> {
            TwoForOne x = new TwoForOne();
            // "pers" "on w" "orth" " 0 9" "   ;"
            x.feed(0x70657273, 0x6F6E2077, 0x6F727468, 0x20302039, 0x2020203B);
            Check.due("town", x.town(20), 0);
            Check.due("likes", x.likes(0, 0), 9);
        });
    }

    private static void feedFull() {
        Check.edge("2 700 bytes are not too many", () -> {
            TwoForOne x = blanks(34);
            Check.due("feed 35", x.feed(BLANKS, BLANKS, BLANKS, BLANKS, BLANKS), 700);
        });
        Check.edge("2 NONE, if it would have more than 700", () -> Check.due("feed 36", blanks(35).feed(0, 0, 0, 0, 0), -1));
        Check.edge("2 .. as often as one feeds", () -> {
            TwoForOne x = blanks(36);
            for (int i = 0; i < 20; i++) {
                Check.due("feed " + (37 + i), x.feed(0, 0, 0, 0, 0), -1);
            }
            Check.due("bytes", x.count(7), 700);
        });
        Check.edge("2 .. and none come: how many it has", () -> Check.due("bytes", blanks(36).count(7), 700));
        Check.edge("2 .. and none come: the bytes are as before", () -> {
            TwoForOne x = blanks(35);
            x.feed(0, 0, 0, 0, 0);
            Check.due("town of the 700", x.town(700), 0);
        });
        Check.edge("2 .. and none come: there is no 701st", () -> {
            TwoForOne x = blanks(36);
            Check.bad("town", () -> x.town(701));
            Check.bad("town", () -> x.town(720));
            Check.due("town", x.town(700), 0);
        });
        Check.edge("2 .. and nothing else changes", () -> {
            TwoForOne x = Busy.fed();
            for (int i = 0; i < 34; i++) {
                x.feed(0, 0, 0, 0, 0);
            }
            String before = Check.all(x);
            Check.due("feed", x.feed(1, 2, 3, 4, 5), -1);
            Check.due("all", Check.all(x), before);
        });
        Check.edge("2 behind a town it begins anew", () -> {
            TwoForOne x = blanks(36);
            x.town(700);
            Check.due("feed", x.feed(0, 0, 0, 0, 0), 20);
        });
        Check.edge("2 .. and what was there is gone", () -> {
            TwoForOne x = new TwoForOne();
            Check.tell(x, "person;person;person;person;");
            Check.feed(x, "person;");
            Check.due("town", x.town(20), 0);
            Check.due("people", x.count(0), 1);
        });
    }

    private static void bytes() {
        Check.edge("3 the tape's first n bytes, none behind them", () -> {
            TwoForOne x = new TwoForOne();
            Check.feed(x, "person has 0 17;");
            Check.due("the second figure is cut off", x.town(14), 1);
            Check.due("the text's length", x.fault(), 14);
            Check.feed(x, "person;person;");
            Check.due("one of two", x.town(7), 0);
            Check.due("people", x.count(0), 1);
            Check.feed(x, "person;persons;");
            Check.due("a part of a word", x.town(13), 1);
            Check.due("the text's length", x.fault(), 13);
            Check.feed(x, "person;foo;");
            Check.due("what is wrong is behind them", x.town(7), 0);
        });
        Check.edge("3 the last of them counts", () -> {
            TwoForOne x = new TwoForOne();
            Check.feed(x, "person;person;");
            Check.due("both", x.town(14), 0);
            Check.due("people", x.count(0), 2);
            Check.feed(x, "person;person;");
            Check.due("the sign is missing", x.town(13), 1);
            Check.due("the text's length", x.fault(), 13);
            Check.due("people", x.count(0), 2);
        });
        Check.edge("3 no byte of what is there", () -> {
            TwoForOne x = new TwoForOne();
            Check.feed(x, "foo");
            Check.due("town", x.town(0), 0);
            Check.due("people", x.count(0), 0);
            Check.due("tape", x.count(7), 0);
        });
        Check.edge("3 no byte of an empty tape", () -> {
            TwoForOne x = Busy.town();
            x.town(0);
            Check.due("town", x.town(0), 0);
            Check.due("fault", x.fault(), -1);
            Check.due("people", x.count(0), 0);
            Check.due("sorts", x.count(1), 1);
        });
        Check.edge("3 a town of 700 bytes", () -> {
            TwoForOne x = new TwoForOne();
            Check.due("town", Check.tell(x, " ".repeat(693) + "person;"), 0);
            Check.due("people", x.count(0), 1);
        });
        Check.edge("3 699 of 700 bytes", () -> {
            TwoForOne x = new TwoForOne();
            Check.feed(x, " ".repeat(693) + "person;");
            Check.due("town", x.town(699), 1);
            Check.due("fault", x.fault(), 699);
        });
        Check.edge("3 as many tokens as bytes can be", () -> {
            TwoForOne x = new TwoForOne();
            String text = "person;".repeat(6);
            text = text + " ".repeat(700 - text.length());
            Check.due("town", Check.tell(x, text), 0);
            Check.due("people", x.count(0), 6);
            Check.due("of signs alone", Check.tell(x, ";".repeat(700)), 1);
            Check.due("the first", x.fault(), 0);
        });
    }

    private static void howMany() {
        Check.edge("3 as many as there are", () -> {
            TwoForOne x = blanks(3);
            Check.due("town", x.town(60), 0);
        });
        Check.edge("3 one more than there are", () -> Check.bad("town", () -> blanks(3).town(61)));
        Check.edge("3 one of an empty tape", () -> Check.bad("town", () -> new TwoForOne().town(1)));
        Check.edge("3 so many that were there", () -> {
            TwoForOne x = blanks(3);
            x.town(1);
            Check.bad("town", () -> x.town(1));
        });
        Check.edge("3 one more than 700", () -> Check.bad("town", () -> blanks(35).town(701)));
        Check.edge("3 the greatest number", () -> Check.bad("town", () -> blanks(35).town(Integer.MAX_VALUE)));
        for (int n : FAR) {
            Check.edge("3 n below 0: " + n, () -> {
                Check.bad("town", () -> blanks(3).town(n));
                Check.bad("town of an empty tape", () -> new TwoForOne().town(n));
            });
        }
        for (int n : new int[] {-1, 41, Integer.MAX_VALUE, Integer.MIN_VALUE}) {
            Check.edge("3 nothing changes: " + n, () -> {
                TwoForOne x = Busy.fed();
                Check.feed(x, "person;foo");
                String before = Check.all(x);
                Check.bad("town", () -> x.town(n));
                Check.due("all", Check.all(x), before);
                Busy.imageIsThere(x);
                Check.due("the tape's first bytes", x.town(27), 0);
                Check.due("people", x.count(0), 1);
            });
        }
    }

    private static void emptyThen() {
        Check.edge("3 the tape is empty then", () -> {
            TwoForOne x = blanks(2);
            x.town(40);
            Check.due("bytes", x.count(7), 0);
        });
        Check.edge("3 the tape is empty then, the bytes behind n too", () -> {
            TwoForOne x = blanks(2);
            x.town(1);
            Check.due("bytes", x.count(7), 0);
        });
        Check.edge("3 the tape is empty then, with no byte read too", () -> {
            TwoForOne x = blanks(2);
            x.town(0);
            Check.due("bytes", x.count(7), 0);
        });
        Check.edge("3 the tape is empty then, with a FAULT, too", () -> {
            TwoForOne x = new TwoForOne();
            Check.feed(x, "person;foo;person;person;");
            Check.due("town", x.town(11), 1);
            Check.due("bytes", x.count(7), 0);
            Check.bad("town", () -> x.town(1));
        });
    }

    private static void place() {
        Check.edge("4 NONE at first", () -> Check.due("fault", new TwoForOne().fault(), -1));
        Check.edge("4 NONE behind a good one", () -> {
            TwoForOne x = new TwoForOne();
            Check.tell(x, "foo");
            Check.tell(x, "person;");
            Check.due("fault", x.fault(), -1);
        });
        Check.edge("4 NONE behind one of no bytes", () -> {
            TwoForOne x = new TwoForOne();
            Check.tell(x, "foo");
            x.town(0);
            Check.due("fault", x.fault(), -1);
        });
        Check.edge("4 the first byte", () -> Check.fault("foo", 1, 0));
        Check.edge("4 the last byte of a text", () -> Check.fault("person;x", 1, 7));
        Check.edge("4 the last byte of 700", () -> Check.fault("person;" + " ".repeat(692) + "x", 1, 699));
        Check.edge("4 the text's length, where it ends too soon", () -> Check.fault("person", 1, 6));
        Check.edge("4 the text's length, blanks behind its last token", () -> Check.fault("person \n ", 1, 9));
        Check.edge("4 the text's length, 700", () -> Check.fault("person;" + " ".repeat(687) + "person", 1, 700));
        Check.edge("4 the latest one's", () -> {
            TwoForOne x = new TwoForOne();
            Check.tell(x, "person;foo");
            Check.tell(x, " foo");
            Check.due("fault", x.fault(), 1);
        });
        Check.edge("4 a refused town() tells no other one", () -> {
            TwoForOne x = new TwoForOne();
            Check.tell(x, "person;foo");
            Check.bad("town", () -> x.town(1));
            Check.bad("town", () -> x.town(-1));
            Check.due("fault", x.fault(), 7);
        });
        Check.edge("4 it stays, whatever is asked", () -> {
            TwoForOne x = Busy.town();
            int place = x.fault();
            x.days(2);
            x.come(0, 1);
            x.share(0);
            Check.due("restore", x.restore(), true);
            Check.feed(x, "person;");
            Check.due("fault", x.fault(), place);
        });
    }

    private static void lastCall() {
        Check.edge("an object is used for 512 calls: the last ones", () -> {
            TwoForOne x = Check.town("sorts 2;person has 0 1;person has 1 1;");
            for (int i = 3; i < 509; i++) {
                Check.due("a trade", x.trade(0, 1, 10, 1), false);
            }
            Check.due("has", x.has(0, 0), 1);
            Check.due("has", x.has(1, 1), 1);
            Check.due("refused", x.count(10), 506);
        });
    }
}
