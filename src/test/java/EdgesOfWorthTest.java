/** The terms of WORTH, promises 5 to 10: what can be asked of who has what; each boundary case by itself. */
public final class EdgesOfWorthTest {
    private static final int[] FAR = {Integer.MIN_VALUE, Integer.MIN_VALUE + 2, -257, -256, -3, -2, 256, 257, 65536, 65537,
        Integer.MAX_VALUE - 1, Integer.MAX_VALUE};

    private static void worth(String sentence, int want, String of) {
        Check.edge("8 " + sentence + ": " + of, () -> {
            TwoForOne x = Check.town("sorts 3;person " + of + ";");
            Check.due("of one", x.worth(0), want);
            Check.due("of all", x.worth(-1), want);
        });
    }

    public static void main(String[] args) {
        ofSorts();
        ofPairs();
        ofAll();
        counts();
        cells();
        left();
        meetings();
        Check.end();
    }

    private static void ofSorts() {
        worth("0 if not told", 0, "has 0 20");
        worth("of nothing", 0, "worth 0 99");
        worth("of one", 9900, "has 0 1 worth 0 99");
        worth("of the most that is told", 198000, "has 0 20 worth 0 99");
        worth("FALLS 0 at first", 1400, "has 0 2 worth 0 7");
        worth("FALLS 0", 1400, "has 0 2 worth 0 7 falls 0");
        worth("FALLS: the first of it (i 0) is worth all", 700, "has 0 1 worth 0 7 falls 100");
        worth("FALLS: the first of it (i 0) is worth all", 700, "has 0 1 worth 0 7 falls 1");
        worth("FALLS: the second one (i 1)", 700 + 693, "has 0 2 worth 0 7 falls 1");
        worth("FALLS: the third one (i 2)", 700 + 693 + 686, "has 0 3 worth 0 7 falls 1");
        worth("FALLS 100: 0 from the second one on", 700, "has 0 2 worth 0 7 falls 100");
        worth("FALLS 99: one hundredth of the second one", 707, "has 0 2 worth 0 7 falls 99");
        worth("FALLS 99: 0 at least", 707, "has 0 3 worth 0 7 falls 99");
        worth("FALLS 50: just 0 for the third one", 1050, "has 0 3 worth 0 7 falls 50");
        worth("FALLS 50: 0 at least", 1050, "has 0 4 worth 0 7 falls 50");
        worth("FALLS 51: 0 at least", 1043, "has 0 3 worth 0 7 falls 51");
        worth("FALLS 49: two hundredths of the third one", 700 + 357 + 14, "has 0 3 worth 0 7 falls 49");
        worth("FALLS 49: 0 at least", 700 + 357 + 14, "has 0 4 worth 0 7 falls 49");
        worth("FALLS 33: one hundredth of the fourth one", 100 + 67 + 34 + 1, "has 0 4 worth 0 1 falls 33");
        worth("FALLS 33: 0 at least", 100 + 67 + 34 + 1, "has 0 20 worth 0 1 falls 33");
        worth("FALLS 34: 0 at least", 100 + 66 + 32, "has 0 4 worth 0 1 falls 34");
        worth("FALLS 5: five hundredths of the twentieth", 1050, "has 0 20 worth 0 1 falls 5");
        worth("FALLS 6: nothing of the eighteenth", 100 + 94 + 88 + 82 + 76 + 70 + 64 + 58 + 52 + 46 + 40 + 34 + 28 + 22 + 16 + 10 + 4,
                "has 0 20 worth 0 1 falls 6");
        worth("FALLS: each SORT by itself", 100 + 50 + 200 + 100 + 300, "has 0 2 has 1 2 has 2 1 worth 0 1 worth 1 2 worth 2 3 falls 50");
        Check.edge("8 FALLS: those of each one are his own", () -> {
            TwoForOne x = Check.town("person has 0 2 worth 0 1 falls 100;person has 0 2 worth 0 1;person has 0 2 worth 0 1 falls 50;");
            Check.due("first", x.worth(0), 100);
            Check.due("second", x.worth(1), 200);
            Check.due("third", x.worth(2), 150);
        });
        Check.edge("8 FALLS 1: the hundredth is worth 1, the next one 0 and never less", () -> {
            TwoForOne x = Check.town("sorts 3;law 3;person has 0 20 has 1 20 has 2 20 worth 0 1 falls 1;" + "person has 0 20;".repeat(5));
            int has = 20;
            int due = 1810;
            for (int k = 0; k < 30; k++) {
                Check.due("trade", x.trade(1 + k / 6, 0, 1 * 81 + 1 * 9 + 1, k < 20 ? 1 : 2), true);
                for (int i = 0; i < 3; i++) {
                    due += has < 100 ? 100 - has : 0;
                    has++;
                }
                Check.due("worth of " + has, x.worth(0), due);
            }
            Check.due("has", x.has(0, 0), 110);
            Check.due("worth", x.worth(0), 5050);
        });
    }

    private static void ofPairs() {
        worth("PAIRS: both SORTS being there", 900, "has 0 1 has 1 1 pair 0 1 9");
        worth("PAIRS: .. many of both, it counts once", 900, "has 0 20 has 1 20 pair 0 1 9");
        worth("PAIRS: the first is missing", 0, "has 1 20 pair 0 1 9");
        worth("PAIRS: the second is missing", 0, "has 0 20 pair 0 1 9");
        worth("PAIRS: both are missing", 0, "has 2 5 pair 0 1 9");
        worth("PAIRS: FALLS don't matter to them", 900, "has 0 2 has 1 2 pair 0 1 9 falls 100");
        worth("PAIRS: a WORTH of 0", 0, "has 0 1 has 1 1 pair 0 1 0");
        worth("PAIRS: a WORTH of 99", 9900, "has 0 1 has 1 1 pair 0 1 99");
        worth("PAIRS: one SORT in two of them", 1700, "has 0 1 has 1 1 has 2 1 pair 0 1 9 pair 1 2 8");
        worth("PAIRS: the greater SORT first", 900, "has 0 1 has 2 1 pair 2 0 9");
        worth("PAIRS: six of one", 2100, "has 0 1 has 1 1 has 2 1 pair 0 1 1 pair 1 2 2 pair 0 2 3 pair 1 0 4 pair 2 1 5 pair 2 0 6");
        worth("PAIRS: beside what the SORTS are worth", 700 + 700 + 300 + 900, "has 0 2 has 1 1 worth 0 7 worth 1 3 pair 0 1 9");
        Check.edge("8 PAIRS: of one, not of another one", () -> {
            TwoForOne x = Check.town("sorts 2;person has 0 1 has 1 1;person has 0 1 has 1 1 pair 0 1 9;person has 0 1 has 1 1;");
            Check.due("first", x.worth(0), 0);
            Check.due("second", x.worth(1), 900);
            Check.due("third", x.worth(2), 0);
        });
        Check.edge("8 PAIRS: of two, what one has and the other is no pair", () -> {
            TwoForOne x = Check.town("sorts 2;person has 0 1 pair 0 1 9;person has 1 1 pair 0 1 9;");
            Check.due("all", x.worth(-1), 0);
        });
    }

    private static void ofAll() {
        Check.edge("8 of all bags (person NONE)", () -> {
            TwoForOne x = Check.town("person has 0 1 worth 0 3;person has 0 2 worth 0 4;person worth 0 9;");
            Check.due("all", x.worth(TwoForOne.NONE), 1100);
        });
        Check.edge("8 of all bags, there are none", () -> Check.due("all", new TwoForOne().worth(-1), 0));
        Check.edge("8 of all bags of six", () -> {
            TwoForOne x = Check.town("person has 0 20 worth 0 99;".repeat(6));
            Check.due("all", x.worth(-1), 6 * 198000);
            Check.due("the last", x.worth(5), 198000);
        });
        Check.edge("8 no such PERSON: one more than the last", () -> Check.none("worth", () -> Check.town("person;person;").worth(2)));
        Check.edge("8 no such PERSON: below NONE", () -> Check.none("worth", () -> Check.town("person;").worth(-2)));
        for (int k : FAR) {
            Check.edge("8 no such PERSON: " + k, () -> Check.none("worth", () -> Check.town("person;".repeat(6)).worth(k)));
        }
    }

    private static void counts() {
        String text = "sorts 4;person has 0 3 has 1 2;person has 3 4;person;law 3 spoon 2 burns;tie 0 1 2;tie 0 0 1;"
                + "meet 0 1;meet 1 2;meet 2 0;meet 0 2;meet 2 1;";
        int[] due = {3, 4, 3, 2, 1, 2, 5, 0, 9, 0, 0, 0};
        for (int k = 0; k < due.length; k++) {
            int what = k;
            Check.edge("5 count " + k, () -> Check.due("count", Check.town(text).count(what), due[what]));
        }
        Check.edge("5 another what: -1", () -> Check.none("count", () -> Check.town(text).count(-1)));
        Check.edge("5 another what: 12", () -> Check.none("count", () -> Check.town(text).count(12)));
        for (int k : FAR) {
            Check.edge("5 another what: " + k, () -> Check.none("count", () -> Check.town(text).count(k)));
        }
        Check.edge("5 all things: none", () -> Check.due("things", Check.town("sorts 8;person;person;").count(8), 0));
        Check.edge("5 all things: the most that can be told", () -> {
            String full = "person has 0 20 has 1 20 has 2 20 has 3 20 has 4 20 has 5 20 has 6 20 has 7 20;";
            Check.due("things", Check.town("sorts 8;" + full.repeat(6)).count(8), 960);
        });
        Check.edge("5 all things: NOW, behind trades that burn, ties, a restore", () -> {
            TwoForOne x = Check.town("sorts 3;law 3 burns;person has 0 6;person has 1 2;tie 0 0 2;");
            x.image();
            Check.due("trade", x.trade(0, 1, 1 * 81 + 1 * 9 + 1, 1), true);
            Check.due("two are gone", x.count(8), 6);
            Check.due("tie", x.tie(0, 0), true);
            Check.due("one less", x.count(8), 5);
            x.restore();
            Check.due("as before", x.count(8), 8);
        });
        Check.edge("5 bytes of the tape: 0, 20, 700, 0", () -> {
            TwoForOne x = new TwoForOne();
            Check.due("none", x.count(7), 0);
            for (int i = 1; i <= 35; i++) {
                x.feed(0, 0, 0, 0, 0);
                Check.due("bytes", x.count(7), 20 * i);
            }
            x.feed(0, 0, 0, 0, 0);
            Check.due("bytes", x.count(7), 700);
            x.town(3);
            Check.due("none", x.count(7), 0);
        });
        Check.edge("5 STATUS 0 to 2, each by itself", () -> {
            TwoForOne x = Check.town("sorts 3;person has 0 1;person;tie 0 0 1;");
            x.trade(0, 1, 10, 2);
            Check.due("a trade", x.count(9) * 100 + x.count(10) * 10 + x.count(11), 10);
            x.tie(0, 0);
            x.tie(1, 0);
            Check.due("two ties", x.count(9) * 100 + x.count(10) * 10 + x.count(11), 12);
            Check.tell(x, "foo");
            Check.tell(x, "");
            Check.due("a text", x.count(9) * 100 + x.count(10) * 10 + x.count(11), 112);
        });
        Check.edge("5 STATUS: what throws, what finds no way, is not refused", () -> {
            TwoForOne x = Check.town("sorts 3;person has 0 1;person;" + "meet 0 1;".repeat(6));
            Check.none("trade", () -> x.trade(0, 0, 10, 2) ? 1 : 0);
            Check.none("tie", () -> x.tie(0, 0) ? 1 : 0);
            Check.bad("town", () -> x.town(1));
            Check.bad("look", () -> x.look(0, 1, 10, 2, 1));
            Check.due("look", x.look(0, 1, 10, 2, 0), 0);
            Check.due("come", x.come(0, 2), -1);
            Check.due("poor", x.poor(0, 2), -1);
            Check.due("order", x.order(), -1);
            Check.due("restore", x.restore(), false);
            Check.due("meet", x.meet(0, 1), 0);
            Check.due("status", x.count(9) + x.count(10) + x.count(11), 0);
        });
    }

    private static void cells() {
        Check.edge("6, 7 each PERSON's each SORT, the first and the last", () -> {
            StringBuilder text = new StringBuilder("sorts 8;");
            for (int person = 0; person < 6; person++) {
                text.append("person");
                for (int sort = person; sort < 8; sort += 7) {
                    text.append(" has ").append(sort).append(' ').append(1 + person + sort);
                    text.append(" worth ").append(sort).append(' ').append(90 + person);
                }
                text.append(';');
            }
            TwoForOne x = Check.town(text.toString());
            for (int person = 0; person < 6; person++) {
                for (int sort = 0; sort < 8; sort++) {
                    boolean told = sort == person || sort == person + 7;
                    Check.due("has", x.has(person, sort), told ? 1 + person + sort : 0);
                    Check.due("likes", x.likes(person, sort), told ? 90 + person : 0);
                }
            }
        });
        String text = "sorts 3;person has 0 2 worth 2 3;person has 1 1;";
        int[][] none = {{2, 0}, {-1, 0}, {0, 3}, {0, -1}, {1, 3}, {2, 3}, {-1, -1}, {6, 0}, {0, 8}, {3, 2}, {-1, 8}, {1, -8}};
        for (int[] cell : none) {
            Check.edge("6 no such PERSON, SORT: " + cell[0] + " " + cell[1], () -> Check.none("has", () -> Check.town(text).has(cell[0], cell[1])));
            Check.edge("7 no such PERSON, SORT: " + cell[0] + " " + cell[1], () -> Check.none("likes", () -> Check.town(text).likes(cell[0], cell[1])));
        }
        for (int k : FAR) {
            Check.edge("6, 7 no such PERSON, SORT: " + k, () -> {
                TwoForOne x = Check.town(text);
                Check.none("has", () -> x.has(k, 0));
                Check.none("has", () -> x.has(0, k));
                Check.none("has", () -> x.has(k, k));
                Check.none("likes", () -> x.likes(k, 0));
                Check.none("likes", () -> x.likes(0, k));
                Check.none("left", () -> x.left(k));
            });
        }
        Check.edge("7 WORTH, as of one of which he has none: FALLS, PAIRS, what he has don't matter", () -> {
            TwoForOne x = Check.town("sorts 2;person has 0 20 has 1 1 worth 0 7 falls 100 pair 0 1 9;");
            Check.due("likes", x.likes(0, 0), 7);
            Check.due("likes", x.likes(0, 1), 0);
        });
        Check.edge("6 NOW, not as it was told", () -> {
            TwoForOne x = Check.town("sorts 2;law 1;person has 0 20;person has 0 20 has 1 1;");
            x.trade(0, 1, 1, 1);
            Check.due("less", x.has(0, 0), 19);
            Check.due("more than 20", x.has(1, 0), 21);
            Check.due("one", x.has(0, 1), 1);
            Check.due("none", x.has(1, 1), 0);
        });
    }

    private static void left() {
        Check.edge("9 LEFT: what all have", () -> {
            TwoForOne x = Check.town("sorts 3;" + "person has 0 20 has 2 1;".repeat(6));
            Check.due("of the first", x.left(0), 120);
            Check.due("of one that none has", x.left(1), 0);
            Check.due("of the last", x.left(2), 6);
        });
        Check.edge("9 LEFT: of no PEOPLE", () -> Check.due("left", Check.town("sorts 2;").left(1), 0));
        Check.edge("9 no such SORT: one more than the last", () -> Check.none("left", () -> Check.town("sorts 3;person;").left(3)));
        Check.edge("9 no such SORT: -1", () -> Check.none("left", () -> Check.town("sorts 3;person;").left(-1)));
        Check.edge("9 no such SORT: the ninth", () -> Check.none("left", () -> Check.town("sorts 8;person;").left(8)));
    }

    private static void meetings() {
        String text = "person;person;person;person;person;person;meet 5 0;meet 0 5;meet 1 2;meet 2 1;meet 3 4;meet 4 5;meet 0 1;meet 2 5;";
        Check.edge("10 who is first, who is second, of the first and of the last", () -> {
            TwoForOne x = Check.town(text);
            Check.due("first", x.meeting(0, 0), 5);
            Check.due("first", x.meeting(0, 1), 0);
            Check.due("last", x.meeting(7, 0), 2);
            Check.due("last", x.meeting(7, 1), 5);
        });
        int[][] none = {{8, 0}, {-1, 0}, {8, 1}, {0, 2}, {0, -1}, {7, 2}, {7, -1}};
        for (int[] k : none) {
            Check.edge("10 no such MEETING, what: " + k[0] + " " + k[1], () -> Check.none("meeting", () -> Check.town(text).meeting(k[0], k[1])));
        }
        for (int k : FAR) {
            Check.edge("10 no such MEETING, what: " + k, () -> {
                TwoForOne x = Check.town(text);
                Check.none("meeting", () -> x.meeting(k, 0));
                Check.none("meeting", () -> x.meeting(0, k));
            });
        }
        Check.edge("10 there are none", () -> Check.none("meeting", () -> Check.town("person;person;").meeting(0, 0)));
    }
}
