/** Part 4 and promises 20 to 30: MEETINGS, DAYS, THE END, ORDER, AHEAD, STILL, SHARE, LAWS; each boundary case by itself. */
public final class EdgesOfDaysTest {
    private static final int[] FAR = {Integer.MIN_VALUE, Integer.MIN_VALUE + 1, -65536, -256, -3, -2, 256, 65536, Integer.MAX_VALUE - 1,
        Integer.MAX_VALUE};
    private static final String CHAIN = "sorts 3;law 1;person has 0 1 worth 0 1 worth 1 2 worth 2 3;person has 1 1 worth 1 1 worth 0 2;"
            + "person has 2 1 worth 2 1 worth 1 2;";
    /** Three bags of twenty are traded, one thing a meeting. */
    private static final String SIXTY = "sorts 8;law 1;person has 0 20 has 1 20 has 2 20 worth 3 1 worth 4 1 worth 5 1;"
            + "person has 3 20 has 4 20 has 5 20 worth 0 1 worth 1 1 worth 2 1;meet 0 1;";
    private static final String SIXTY_ONE = SIXTY.replace("person has 0", "person worth 7 1 has 6 1 has 0")
            .replace("person has 3", "person worth 6 1 has 7 1 has 3");
    private static final String SPENT_AHEAD = "sorts 7;person has 0 8 has 2 2 has 3 2 has 4 13;"
            + "person has 1 15 worth 0 17 worth 1 12 worth 2 11 worth 4 2 worth 5 9 worth 6 4;"
            + "person has 2 2 worth 1 4 worth 2 17 worth 5 19;meet 2 1;meet 1 2;meet 2 0;meet 0 2;meet 0 2;";

    public static void main(String[] args) {
        meeting();
        meetingFirst();
        days();
        end();
        order();
        ahead();
        still();
        share();
        shareLimit();
        shareKeeps();
        laws();
        best();
        Check.end();
    }

    private static void meet(String sentence, int gain, String bags, String text) {
        Check.edge("20 a MEETING: " + sentence, () -> {
            TwoForOne x = Check.town(text);
            Check.due("meet", x.meet(0, 1), gain);
            Check.due("bags", Check.bags(x), bags);
            TwoForOne y = Check.town(text);
            Check.due("the other one first", y.meet(1, 0), gain);
            Check.due("bags", Check.bags(y), bags);
        });
    }

    private static void meeting() {
        String text = "sorts 2;law 1;person has 0 1 worth 0 %d worth 1 %d;person has 1 1 worth 0 %d worth 1 %d;";
        meet("both are better", 700, "0 1 / 1 0", text.formatted(1, 4, 5, 1));
        meet("both are better by the least", 2, "1 2 / 2 1", "sorts 2;law 1;person has 0 2 has 1 1 worth 1 1 falls 99;"
                + "person has 1 2 has 0 1 worth 0 1 falls 99;");
        meet("a is as well as before: 0, nothing", 0, "1 0 / 0 1", text.formatted(4, 4, 5, 1));
        meet("b is as well as before: 0, nothing", 0, "1 0 / 0 1", text.formatted(1, 99, 1, 1));
        meet("a has less: 0, nothing", 0, "1 0 / 0 1", text.formatted(4, 3, 99, 0));
        meet("b has less: 0, nothing", 0, "1 0 / 0 1", text.formatted(0, 99, 3, 4));
        meet("nothing is LAWFUL: 0", 0, "1 0 / 1 0", "sorts 2;law 1;person has 0 1 worth 1 9;person has 0 1 worth 1 9;");
        meet("either may be a: the second alone can give", 1200, "0 1 1 / 1 0 0", "sorts 3;person has 0 1 worth 1 4 worth 2 4;"
                + "person has 1 1 has 2 1 worth 0 4;");
        meet("one TRADE alone", 200, "1 1 / 1 1", "sorts 2;law 1;person has 0 2 worth 1 1;person has 1 2 worth 0 1;");
        meet("the SPOON must be among them", 0, "1 0 0 / 0 1 0", "sorts 3;law 1 spoon 2;person has 0 1 worth 1 1;person has 1 1 worth 0 1;");
        Check.edge("20 a MEETING: others have nothing of it", () -> {
            TwoForOne x = Check.town(CHAIN);
            Check.due("meet", x.meet(1, 2), 0);
            Check.due("meet", x.meet(0, 1), 200);
            Check.due("bags", Check.bags(x), "0 1 0 / 1 0 0 / 0 0 1");
        });
        Check.edge("20 a MEETING that isn't told as one of a DAY", () -> {
            TwoForOne x = Check.town("sorts 2;law 1;person has 0 1 worth 1 1;person;person has 1 1 worth 0 1;meet 0 1;");
            Check.due("meet", x.meet(2, 0), 200);
        });
        int[][] wrong = {{0, 0}, {1, 1}, {2, 2}, {2, 0}, {0, 2}, {-1, 0}, {0, -1}, {-1, -1}, {6, 1}, {-1, 2}};
        for (int[] k : wrong) {
            Check.edge("20 no such PEOPLE, or both are one: " + k[0] + " " + k[1], () -> {
                TwoForOne x = Busy.fed();
                String before = Check.all(x);
                Check.none("meet", () -> x.meet(k[0], k[1]));
                Check.due("all", Check.all(x), before);
                Busy.imageIsThere(x);
            });
        }
        for (int k : FAR) {
            Check.edge("20 no such PEOPLE: " + k, () -> {
                TwoForOne x = Check.town("sorts 2;" + "person has 0 1;".repeat(6));
                Check.none("meet", () -> x.meet(k, 0));
                Check.none("meet", () -> x.meet(0, k));
                Check.none("meet", () -> x.meet(k, k));
            });
        }
        Check.edge("20 the first and the last of six", () -> {
            TwoForOne x = Check.town("sorts 2;law 1;person has 0 1 worth 1 1;" + "person;".repeat(4) + "person has 1 1 worth 0 1;");
            Check.due("meet", x.meet(5, 0), 200);
        });
    }

    private static void meetingFirst() {
        meet("of like ones the first: the least a gives", 900, "0 0 1 0 / 1 1 0 1",
                "sorts 4;person has 0 1 has 1 1 worth 2 5;person has 2 1 has 3 1 worth 0 4;");
        meet("one by which the second gives, that GAINS more", 1000, "0 1 1 1 / 1 0 0 0",
                "sorts 4;person has 0 1 has 1 1 worth 2 5 worth 3 1;person has 2 1 has 3 1 worth 0 4;");
        meet("of like ones the first: the least given", 200, "0 1 1 0 / 1 0 0 0",
                "sorts 4;law 1;person has 0 1 has 1 1 worth 2 1;person has 2 1 worth 0 1 worth 1 1;");
        meet("of like ones the first: the least z", 200, "0 1 0 / 1 0 1", "sorts 3;law 1;person has 0 1 worth 1 1 worth 2 1;"
                + "person has 1 1 has 2 1 worth 0 1;");
        meet("a later one that GAINS more by a hundredth", 301, "1 0 1 0 / 0 2 0 0",
                "sorts 4;law 1;person has 0 1 has 1 1 worth 2 1;person has 2 1 has 1 1 worth 0 2 worth 1 67 falls 97;");
        meet("an earlier one that GAINS more by a hundredth", 301, "0 1 1 0 / 2 0 0 0",
                "sorts 4;law 1;person has 0 1 has 1 1 worth 2 1;person has 2 1 has 0 1 worth 1 2 worth 0 67 falls 97;");
        meet("of both together, not of a, not of b", 1000, "1 0 1 0 / 0 1 0 0",
                "sorts 4;law 1;person has 0 1 has 1 1 worth 2 5 worth 0 3;person has 2 1 worth 0 7 worth 1 5;");
    }

    private static void days() {
        Check.edge("21 DAYS (0 to 60): 0, nothing", () -> {
            TwoForOne x = Check.town(SIXTY);
            Check.due("days", x.days(0), 0);
            Check.due("left", x.has(0, 0), 20);
        });
        Check.edge("21 DAYS (0 to 60): 1", () -> {
            TwoForOne x = Check.town(SIXTY);
            Check.due("days", x.days(1), 1);
            Check.due("left", x.has(0, 0), 19);
        });
        Check.edge("21 DAYS (0 to 60): 59", () -> Check.due("days", Check.town(SIXTY_ONE).days(59), 59));
        Check.edge("21 DAYS (0 to 60): 60", () -> Check.due("days", Check.town(SIXTY_ONE).days(60), 60));
        Check.edge("21 how many: 61", () -> Check.bad("days", () -> Check.town(SIXTY_ONE).days(61)));
        Check.edge("21 how many: -1", () -> Check.bad("days", () -> Check.town(SIXTY_ONE).days(-1)));
        for (int k : FAR) {
            Check.edge("21 how many: " + k, () -> {
                TwoForOne x = Busy.fed();
                String before = Check.all(x);
                Check.bad("days", () -> x.days(k));
                Check.due("all", Check.all(x), before);
                Busy.imageIsThere(x);
            });
        }
        Check.edge("21 how many: 61, of a town without MEETINGS, without PEOPLE", () -> {
            Check.bad("days", () -> new TwoForOne().days(61));
            Check.bad("days", () -> Check.town("person;").days(-1));
            Check.due("days", new TwoForOne().days(60), 0);
        });
        Check.edge("21 TRADES, not DAYS: eight MEETINGS a DAY, one behind the other", () -> {
            TwoForOne x = Check.town("sorts 2;law 1;person has 0 20 worth 1 1;person has 1 20 worth 0 1;" + "meet 0 1;".repeat(8));
            Check.due("a day", x.days(1), 8);
            Check.due("bags", Check.bags(x), "12 8 / 8 12");
            Check.due("two more", x.days(2), 12);
            Check.due("no more", x.days(60), 0);
        });
        Check.edge("21 a DAY that changes nothing ends nothing: each goes by", () -> Check.due("days", Check.town(CHAIN + "meet 1 2;").days(60), 0));
        Check.edge("21 the first and the last MEETING count", () -> {
            TwoForOne x = Check.town(CHAIN + "meet 0 1;meet 1 2;meet 1 2;meet 1 2;meet 1 2;meet 1 2;meet 1 2;meet 0 2;");
            Check.due("days", x.days(1), 2);
            Check.due("bags", Check.bags(x), "0 0 1 / 1 0 0 / 0 1 0");
        });
    }

    private static void end() {
        Check.edge("22 THE END: the first DAY changes nothing", () -> {
            TwoForOne x = Check.town(CHAIN + "meet 1 2;");
            Check.due("days", x.end(0), 0);
            Check.due("things", x.end(1), 3);
            Check.due("worth", x.end(2), 300);
        });
        Check.edge("22 THE END: one DAY changes something", () -> Check.due("days", Check.town(CHAIN + "meet 0 1;").end(0), 1));
        Check.edge("22 THE END: two DAYS change something", () -> Check.due("days", Check.town(CHAIN + "meet 0 2;meet 0 1;").end(0), 2));
        Check.edge("22 THE END: no MEETINGS", () -> Check.due("days", Check.town(CHAIN).end(0), 0));
        Check.edge("22 THE END: 59 DAYS", () -> {
            TwoForOne x = Check.town(SIXTY.replace("has 0 20", "has 0 19"));
            Check.due("days", x.end(0), 59);
            Check.due("worth", x.end(2), 11800);
        });
        Check.edge("22 THE END: just 60 DAYS", () -> {
            TwoForOne x = Check.town(SIXTY);
            Check.due("days", x.end(0), 60);
            Check.due("worth", x.end(2), 12000);
        });
        Check.edge("22 THE END: 60 have gone by, a 61st would change something", () -> {
            TwoForOne x = Check.town(SIXTY_ONE);
            Check.due("days", x.end(0), 60);
            Check.due("worth", x.end(2), 12000);
            Check.due("of the first", x.end(3), 6000);
            x.days(1);
            Check.due("the last one too", x.end(2), 12200);
            Check.due("days", x.end(0), 60);
        });
        Check.edge("22 THE END: things that are left", () -> {
            TwoForOne x = Check.town("sorts 2;law 3 burns;person has 0 7 worth 1 9;person has 1 5 worth 0 2 worth 1 1;meet 0 1;");
            Check.due("left", x.end(1), 8);
            Check.due("none is gone NOW", x.count(8), 12);
        });
        for (int k = 0; k <= 6; k++) {
            int many = k;
            Check.edge("22 THE END: WORTH of one (3 and that), PEOPLE: " + k, () -> {
                TwoForOne x = Check.town("person has 0 1 worth 0 7;".repeat(many));
                for (int person = 0; person < many; person++) {
                    Check.due("end", x.end(3 + person), 700);
                }
                Check.none("one more", () -> x.end(3 + many));
            });
        }
        Check.edge("22 another what: -1", () -> Check.none("end", () -> Check.town("person;").end(-1)));
        for (int k : FAR) {
            Check.edge("22 another what: " + k, () -> {
                TwoForOne x = Busy.fed();
                String before = Check.all(x);
                Check.none("end", () -> x.end(k));
                Check.due("all", Check.all(x), before);
                Busy.imageIsThere(x);
            });
        }
    }

    private static void order(String sentence, int want, String text, int... row) {
        Check.edge("23 ORDER: " + sentence, () -> {
            TwoForOne x = Check.town(text);
            String before = Check.bags(x);
            Check.due("order", x.order(), want);
            for (int i = 0; i < row.length; i++) {
                Check.due("ordered " + i, x.ordered(i), row[i]);
            }
            Check.none("behind the last", () -> x.ordered(row.length));
            Check.due("nothing changes", Check.bags(x), before);
        });
    }

    private static void order() {
        String hands = "sorts 6;law 1;person has 0 1 worth 1 1 worth 2 2 worth 3 3 worth 4 4 worth 5 5;person has 1 1 worth 0 9;"
                + "person has 2 1 worth 1 9;person has 3 1 worth 2 9;person has 4 1 worth 3 9;person has 5 1 worth 4 9;";
        order("no PEOPLE", 0, "");
        order("no MEETINGS: an empty row", 0, hands);
        order("one MEETING", 1000, hands + "meet 0 1;", 0);
        order("two MEETINGS, the other way", 2000, hands + "meet 0 2;meet 0 1;", 1, 0);
        order("5 MEETINGS, the first of all orders", 5000, hands + "meet 0 1;meet 0 2;meet 0 3;meet 0 4;meet 0 5;", 0, 1, 2, 3, 4);
        order("5 MEETINGS, the last of all orders", 5000, hands + "meet 0 5;meet 0 4;meet 0 3;meet 0 2;meet 0 1;", 4, 3, 2, 1, 0);
        order("of like ones the first as a row", 0, hands + "meet 1 2;meet 2 3;meet 3 4;meet 4 5;meet 1 5;", 0, 1, 2, 3, 4);
        order("of like ones the first as a row", 1000, hands + "meet 4 5;meet 0 1;meet 2 3;", 0, 1, 2);
        order("6 MEETINGS: NONE", -1, hands + "meet 0 1;".repeat(6));
        order("8 MEETINGS: NONE", -1, hands + "meet 0 1;".repeat(8));
        order("of greatest WORTH, by a hundredth", 402, "sorts 3;law 1;person has 0 1 worth 1 1 worth 2 1;"
                + "person has 1 1 has 0 1 worth 0 1 falls 99;person has 2 1 has 0 1 worth 0 2 falls 99;meet 0 1;meet 0 2;", 1, 0);
        Check.edge("23 it is kept", () -> {
            TwoForOne x = Check.town(hands + "meet 0 2;meet 0 1;");
            Check.none("none yet", () -> x.ordered(0));
            x.order();
            Check.due("first", x.ordered(0), 1);
        });
        Check.edge("23 NONE: what is kept stays, where nothing is: nothing", () -> {
            TwoForOne x = Check.town(hands + "meet 0 1;".repeat(6));
            x.come(0, 0);
            x.poor(0, 0);
            String before = Check.all(x);
            Check.due("order", x.order(), -1);
            Check.due("all", Check.all(x), before);
        });
        Check.edge("23 another one in its place", () -> {
            TwoForOne x = Check.town(CHAIN + "meet 0 2;meet 0 1;");
            x.order();
            Check.due("first", x.ordered(0), 1);
            x.days(2);
            x.order();
            Check.due("first", x.ordered(0), 0);
            Check.due("second", x.ordered(1), 1);
        });
        Check.edge("23 the way, the bag, the share stay", () -> {
            TwoForOne x = Busy.town();
            String before = Check.kept(x);
            x.order();
            Check.due("kept", Check.kept(x), before);
        });
        int[] wrong = {-1, 2, 3, 5, 6, 8};
        for (int k : wrong) {
            Check.edge("24 there is none: " + k, () -> {
                TwoForOne x = Check.town(hands + "meet 0 2;meet 0 1;");
                x.order();
                Check.none("ordered", () -> x.ordered(k));
                Check.due("it stays", x.ordered(0), 1);
            });
        }
        for (int k : FAR) {
            Check.edge("24 there is none: " + k, () -> {
                TwoForOne x = Check.town(hands + "meet 0 2;meet 0 1;");
                x.order();
                Check.none("ordered", () -> x.ordered(k));
            });
        }
        Check.edge("24 the last of five", () -> {
            TwoForOne x = Check.town(hands + "meet 0 5;meet 0 4;meet 0 3;meet 0 2;meet 0 1;");
            x.order();
            Check.due("last", x.ordered(4), 0);
            Check.none("one more", () -> x.ordered(5));
        });
        Check.edge("24 none is kept", () -> {
            TwoForOne x = Check.town(hands + "meet 0 1;");
            Check.none("ordered", () -> x.ordered(0));
            x.days(1);
            x.most();
            Check.none("ordered", () -> x.ordered(0));
        });
    }

    private static void ahead(String sentence, String text, int... worths) {
        Check.edge("25 AHEAD: " + sentence, () -> {
            TwoForOne x = Check.town(text);
            String before = Check.all(x);
            for (int person = 0; person < worths.length; person++) {
                Check.due("ahead " + person, x.ahead(person), worths[person]);
            }
            Check.none("one more", () -> x.ahead(worths.length));
            Check.due("nothing changes", Check.all(x), before);
        });
    }

    private static void ahead() {
        ahead("no MEETINGS: as it is", "person has 0 2 worth 0 3;person;", 600, 0);
        ahead("one alone", "person has 0 2 worth 0 3;", 600);
        ahead("nothing is LAWFUL", "sorts 2;person has 0 1 worth 0 3;person has 0 1;meet 0 1;", 300, 0);
        String two = "sorts 2;law 1;person has 0 1 worth 0 %d worth 1 %d;person has 1 1 worth 0 %d worth 1 %d;";
        ahead("both have more", two.formatted(1, 2, 2, 1) + "meet 0 1;", 200, 200);
        ahead("the first has as much as by none: none", two.formatted(2, 2, 2, 1) + "meet 0 1;", 200, 100);
        ahead("the second has as much as by none: none", two.formatted(1, 2, 2, 2) + "meet 0 1;", 100, 200);
        ahead("the first has less: none", two.formatted(2, 1, 9, 1) + "meet 0 1;", 200, 100);
        ahead("the second has less: none", two.formatted(1, 9, 1, 2) + "meet 0 1;", 100, 200);
        ahead("the other one first", two.formatted(1, 2, 2, 1) + "meet 1 0;", 200, 200);
        ahead("by the least", "sorts 2;law 1;person has 0 2 has 1 1 worth 1 1 falls 99;person has 1 2 has 0 1 worth 0 1 falls 99;meet 0 1;", 101, 101);
        ahead("none is better for both at the end of the DAY", "sorts 3;law 1;person has 0 1 worth 1 5 worth 2 9 worth 0 1;person has 1 1 worth 0 9;"
                + "person has 2 1 worth 0 9;meet 0 1;meet 0 2;", 900, 0, 900);
        ahead("a loss that is made good by the end", "sorts 3;law 1;person has 0 1 worth 1 5;person has 1 1 worth 1 1 worth 2 9;"
                + "person has 2 1 worth 0 7;meet 0 1;meet 1 2;", 500, 900, 700);
        ahead("a loss that is made good by the end, of the last PEOPLE", "sorts 3;law 1;person;person;person;person has 0 1 worth 1 5;"
                + "person has 1 1 worth 1 1 worth 2 9;person has 2 1 worth 0 7;meet 3 4;meet 4 5;", 0, 0, 0, 500, 900, 700);
        ahead("the second has less by the end, though more at first: none, of the last PEOPLE", "sorts 3;law 1;person;person;person;"
                + "person has 1 1 worth 0 5;person has 0 1 worth 1 2 worth 2 9;person has 2 1 worth 0 7;meet 3 4;meet 4 5;", 0, 0, 0, 0, 900, 700);
        String choice = "sorts 4;law 1;person has 0 1 has 1 1 worth 2 9 worth 3 5;person has 2 1 has 3 1 worth 0 9 worth 1 9 worth 2 8 worth 3 1;";
        ahead("that by which the first one has most", choice + "meet 0 1;", 900, 1000);
        ahead("that by which the first one has most: the other one is first", choice + "meet 1 0;", 500, 1700);
        ahead("of like ones the first", "sorts 4;law 1;person has 2 1 worth 0 5 worth 1 5;person has 0 1 has 1 1 worth 2 9 worth 3 1;"
                + "person has 3 1 worth 0 9;meet 0 1;meet 1 2;", 500, 900, 0);
        String either = "sorts 4;person has 0 1 has 1 1 worth 2 5 worth 3 1;person has 2 1 has 3 1 worth 0 4;";
        ahead("of like ones the first: the least a, though the other one is first", either + "meet 1 0;", 500, 400);
        ahead("that by which the first one has most: of the greater a", either + "meet 0 1;", 600, 400);
        ahead("of like ones the first: the least given", "sorts 4;law 1;person has 0 1 has 1 1 worth 1 1 worth 2 5;person has 2 1 worth 0 4 worth 1 4;"
                + "meet 1 0;", 600, 400);
        ahead("of like ones the first: the least z", "sorts 4;law 1;person has 0 1 worth 2 5 worth 3 6;person has 2 1 has 3 1 worth 0 4;meet 1 0;", 500, 400);
        ahead("eight MEETINGS", "sorts 2;person has 0 2 worth 1 5;person has 1 1 worth 0 4;" + "meet 0 1;".repeat(8), 500, 800);
        ahead("at most 3000 times: 3000", "sorts 7;person has 1 1 has 2 1 has 3 1 has 5 12;"
                + "person has 0 15 has 1 3 has 3 3 has 4 1 worth 0 4 worth 1 1 worth 3 5;meet 0 1;meet 1 0;meet 1 0;", 0, 7800);
        ahead("at most 3000 times: 3001, SPENT", SPENT_AHEAD, -2, -2, -2);
        ahead("very many times: SPENT", "sorts 8;law 1;" + "person has 0 9 has 1 9 has 2 9 has 3 9;person has 4 9 has 5 9 has 6 9 has 7 9;"
                + "meet 0 1;".repeat(8), -2, -2);
        Check.edge("25 SPENT: nothing changes, nothing is forgotten", () -> {
            TwoForOne x = Check.town(SPENT_AHEAD);
            x.come(0, 0);
            x.poor(0, 0);
            x.order();
            x.image();
            String before = Check.all(x);
            Check.due("ahead", x.ahead(1), -2);
            Check.due("all", Check.all(x), before);
            Check.due("restore", x.restore(), true);
        });
        Check.edge("25 SPENT, then not: each is thought through by itself", () -> {
            TwoForOne x = Check.town(SPENT_AHEAD);
            for (int k = 0; k < 3; k++) {
                Check.due("ahead", x.ahead(k), -2);
            }
            Check.tell(x, "sorts 2;law 1;person has 0 1 worth 1 2;person has 1 1 worth 0 2;meet 0 1;");
            Check.due("ahead", x.ahead(0), 200);
        });
        Check.edge("25 no such PERSON: -1", () -> Check.none("ahead", () -> Check.town("person;").ahead(-1)));
        Check.edge("25 no such PERSON, where it is SPENT", () -> Check.none("ahead", () -> Check.town(SPENT_AHEAD).ahead(3)));
        for (int k : FAR) {
            Check.edge("25 no such PERSON: " + k, () -> Check.none("ahead", () -> Check.town("person;".repeat(6)).ahead(k)));
        }
    }

    private static void still(String sentence, int person, int d, int w, int worth, String text) {
        Check.edge("26 STILL: " + sentence, () -> {
            TwoForOne x = Check.town(text);
            String before = Check.all(x);
            Check.due("w", x.still(person, d, 0), w);
            Check.due("worth", x.still(person, d, 1), worth);
            Check.due("nothing changes", Check.all(x), before);
        });
    }

    private static void still() {
        String late = "sorts 5;law 1;person has 0 1 worth 1 1 worth 2 9;person has 1 1 has 3 %d worth 0 50 worth 4 60 worth 3 1 worth 2 2;"
                + "person has 4 %d has 2 1 worth 3 9 worth 4 1 worth 1 4;meet 0 1;meet 1 2;";
        still("no MEETINGS: 0 of like ones", 0, 1, 0, 300, "person has 0 1 worth 0 3;person;");
        still("w 0: it is best to go at once", 0, 1, 0, 200, CHAIN + "meet 0 1;");
        still("of like ones the least", 0, 10, 0, 200, CHAIN + "meet 0 1;");
        still("w 1", 0, 1, 1, 900, "sorts 3;law 1;person has 0 1 worth 0 1 worth 1 5 worth 2 9;"
                + "person has 1 1 worth 0 3 worth 1 1 worth 2 2;person has 2 1 worth 1 5 worth 2 1;meet 0 1;meet 1 2;");
        still("w 9", 0, 1, 9, 900, late.formatted(8, 8));
        still("w 10, the last", 0, 1, 10, 900, late.formatted(9, 9));
        still("w 11 would be better, but there is none", 0, 1, 0, 100, late.formatted(10, 10));
        String daily = "sorts 2;law 1;person has 0 20 worth 1 1;person has 1 20 worth 0 1;meet 0 1;";
        still("d 1: one DAY with him", 0, 1, 0, 100, daily);
        still("d 2: two DAYS with him", 0, 2, 0, 200, daily);
        still("d 10: ten DAYS with him", 0, 10, 0, 1000, daily);
        still("the last PERSON", 5, 1, 0, 0, "person;".repeat(6));
        String waits = "sorts 3;law 1;person has 0 1 worth 0 1 worth 1 5 worth 2 9;"
                + "person has 1 1 worth 0 3 worth 1 1 worth 2 2;person has 2 1 worth 1 5 worth 2 1;";
        still("MEETINGS of his are left out: he is first", 0, 1, 1, 900, waits + "meet 0 1;meet 1 2;");
        still("MEETINGS of his are left out: he is second", 0, 1, 1, 900, waits + "meet 1 0;meet 2 1;");
        still("MEETINGS of others are not left out: his comes first", 0, 2, 1, 900, waits + "meet 1 0;meet 1 0;meet 1 2;");
        still("the other one's way: he goes at once", 1, 1, 0, 300, waits + "meet 1 0;meet 2 1;");
        for (int d : new int[] {0, 11, -1, -10, 60, 256, Integer.MAX_VALUE, Integer.MIN_VALUE}) {
            Check.edge("26 d (1 to 10): " + d, () -> {
                TwoForOne x = Busy.fed();
                String before = Check.all(x);
                Check.bad("still", () -> x.still(0, d, 0));
                Check.bad("still", () -> x.still(1, d, 1));
                Check.none("another what is ahead of it", () -> x.still(0, d, 2));
                Check.none("another what is ahead of it", () -> x.still(0, d, -1));
                Check.none("no such PERSON is ahead of it", () -> x.still(2, d, 0));
                Check.none("no such PERSON is ahead of it", () -> x.still(-1, d, 1));
                Check.due("all", Check.all(x), before);
            });
        }
        int[][] wrong = {{2, 0}, {-1, 0}, {0, 2}, {0, -1}, {2, 2}, {6, 1}};
        for (int[] k : wrong) {
            Check.edge("26 no such PERSON, another what: " + k[0] + " " + k[1], () -> {
                TwoForOne x = Busy.fed();
                String before = Check.all(x);
                Check.none("still", () -> x.still(k[0], 1, k[1]));
                Check.due("all", Check.all(x), before);
                Busy.imageIsThere(x);
            });
        }
        for (int k : FAR) {
            Check.edge("26 no such PERSON, another what: " + k, () -> {
                TwoForOne x = Check.town("person;".repeat(6));
                Check.none("still", () -> x.still(k, 1, 0));
                Check.none("still", () -> x.still(0, 1, k));
            });
        }
    }

    private static void share(String sentence, int least, int all, String row, String text) {
        Check.edge("27 SHARE: " + sentence, () -> {
            TwoForOne x = Check.town(text);
            String before = Check.bags(x);
            Check.due("least", x.share(0), least);
            Check.due("row", shared(x), row);
            TwoForOne y = Check.town(text);
            Check.due("of all", y.share(1), all);
            Check.due("row", shared(y), row);
            Check.due("nothing changes", Check.bags(x), before);
        });
    }

    private static String shared(TwoForOne x) {
        StringBuilder row = new StringBuilder();
        for (int person = 0; person < x.count(0); person++) {
            row.append(person > 0 ? " / " : "");
            for (int sort = 0; sort < x.count(1); sort++) {
                row.append(sort > 0 ? " " : "").append(x.shared(person, sort));
            }
        }
        return row.toString();
    }

    private static void share() {
        share("one PERSON: one way", 300, 300, "3", "person has 0 3 worth 0 1;");
        share("no things: one way", 0, 0, "0 0 / 0 0", "sorts 2;person worth 0 1;person;");
        share("one thing: the least WORTH is 0, that of all the greatest", 0, 900, "0 / 1", "person has 0 1 worth 0 8;person worth 0 9;");
        share("of like ones the first: more of it ahead", 0, 900, "1 / 0", "person worth 0 9;person has 0 1 worth 0 9;");
        share("of like ones the first: PERSON 0 first, SORT 0 first", 100, 200, "1 0 / 0 1", "sorts 2;person has 1 1 worth 0 1 worth 1 1;"
                + "person has 0 1 worth 0 1 worth 1 1;");
        share("worth nothing to any: all to the first", 0, 0, "2 1 / 0 0 / 0 0", "sorts 2;person;person has 0 2;person has 1 1;");
        share("the least WORTH by a hundredth, though all have less", 101, 10001, "2 / 1", "person worth 0 1 falls 99;person has 0 3 worth 0 99;");
        share("the greatest of all together, where the least is like", 100, 1000, "0 1 / 1 0",
                "sorts 2;person has 0 1 has 1 1 worth 0 1 worth 1 1;person worth 0 9 worth 1 1;");
        share("a DAY goes by behind each", 500, 1000, "1 0 / 0 1", "sorts 2;law 1;person has 0 1 worth 0 1 worth 1 5;person has 1 1 worth 0 5 worth 1 1;meet 1 0;");
        share("no DAY of MEETINGS goes by without any", 500, 1000, "0 1 / 1 0", "sorts 2;law 1;person has 0 1 worth 0 1 worth 1 5;person has 1 1 worth 0 5 worth 1 1;");
        Check.edge("27 SHARE: NONE, no PEOPLE", () -> {
            TwoForOne x = Check.town("sorts 8;");
            Check.due("least", x.share(0), -1);
            Check.due("all", x.share(1), -1);
            Check.none("none is kept", () -> x.shared(0, 0));
        });
        for (int what : new int[] {-1, 2, 3, -2, 256, Integer.MAX_VALUE, Integer.MIN_VALUE}) {
            Check.edge("27 another what: " + what, () -> {
                TwoForOne x = Busy.fed();
                String before = Check.all(x);
                Check.none("share", () -> x.share(what));
                Check.due("all", Check.all(x), before);
                Busy.imageIsThere(x);
            });
        }
    }

    private static void shareLimit() {
        share("1500 ways", 0, 3200, "0 0 9 / 14 9 0", "sorts 3;person has 0 14 has 1 9 has 2 9;person worth 0 1 worth 1 2;");
        Check.edge("27 SHARE: 1501 ways: SPENT", () -> {
            TwoForOne x = Check.town("sorts 4;person has 0 20 has 1 19 has 2 19 has 3 18;person has 0 20 has 1 19 has 2 19;tie 1 2 0;");
            for (int k = 0; k < 38; k++) {
                Check.due("tie", x.tie(k % 2, 0), true);
            }
            Check.due("78, 18: 79 by 19 ways", x.left(0) * 100 + x.left(3), 7818);
            Check.due("share", x.share(0), -2);
            Check.due("share", x.share(1), -2);
        });
        Check.edge("27 SHARE: 78 by 19 ways", () -> {
            TwoForOne x = Check.town("sorts 4;person has 0 20 has 1 19 has 2 19 has 3 18;person has 0 19 has 1 19 has 2 19 worth 0 1;tie 1 2 0;");
            for (int k = 0; k < 38; k++) {
                Check.due("tie", x.tie(k % 2, 0), true);
            }
            Check.due("share", x.share(1), 7700);
        });
        String[] good = {"person has 0 20;person has 0 20;person has 0 13;", "person has 0 18;person;person;person;",
            "person has 0 11;person;person;person;person;", "person has 0 8;person;person;person;person;person;"};
        String[] many = {"person has 0 20;person has 0 20;person has 0 14;", "person has 0 19;person;person;person;",
            "person has 0 12;person;person;person;person;", "person has 0 9;person;person;person;person;person;"};
        for (int k = 0; k < good.length; k++) {
            String few = good[k];
            String more = many[k];
            Check.edge("27 SHARE: less than 1500 ways: " + few, () -> Check.due("share", Check.town(few).share(0), 0));
            Check.edge("27 SHARE: more than 1500 ways: " + more, () -> Check.due("share", Check.town(more).share(0), -2));
        }
        Check.edge("27 SHARE: very many ways: SPENT", () -> {
            String all = "person has 0 20 has 1 20 has 2 20 has 3 20 has 4 20 has 5 20 has 6 20 has 7 20;";
            for (int people = 2; people <= 6; people++) {
                Check.due("share", Check.town("sorts 8;" + all.repeat(people)).share(0), -2);
            }
            Check.due("one alone", Check.town("sorts 8;" + all).share(0), 0);
        });
        Check.edge("27 SHARE: as many ways as wrap around to few: SPENT", () -> {
            Check.due("16 to the 8th", Check.town("sorts 8;person has 0 15 has 1 15 has 2 15 has 3 15 has 4 15 has 5 15 has 6 15 has 7 15;person;").share(0), -2);
            Check.due("2 to the 40th", Check.town("sorts 8;" + "person has 0 15 has 1 15 has 2 15 has 3 15 has 4 16 has 5 16 has 6 16 has 7 16;"
                    .repeat(2)).share(0), -2);
        });
    }

    private static void shareKeeps() {
        String text = "sorts 3;person has 0 20 has 1 20;person worth 0 1;tie 0 1 2;";
        Check.edge("27 it is kept, by either what", () -> {
            TwoForOne x = Check.town(text);
            x.share(0);
            Check.due("row", shared(x), "0 20 0 / 20 0 0");
            TwoForOne y = Check.town(text);
            y.share(1);
            Check.due("row", shared(y), "0 20 0 / 20 0 0");
        });
        Check.edge("27 -2: what is kept stays", () -> {
            TwoForOne x = Check.town(text);
            x.share(0);
            x.tie(0, 0);
            x.tie(0, 0);
            x.tie(0, 0);
            x.tie(0, 0);
            Check.due("17 by 17 by 5 are fewer", x.share(0) == -2, false);
            String kept = shared(x);
            for (int k = 0; k < 4; k++) {
                x.tie(0, 0);
            }
            Check.due("13 by 13 by 9 are too many", x.share(0), -2);
            Check.due("row", shared(x), kept);
        });
        Check.edge("27 -2, where nothing is kept: nothing is kept", () -> {
            TwoForOne x = Check.town("person has 0 19;person;person;person;");
            x.share(0);
            Check.none("shared", () -> x.shared(0, 0));
        });
        Check.edge("27 the way, the bag, the order stay", () -> {
            TwoForOne x = Busy.town();
            String before = Check.kept(x);
            x.share(1);
            String behind = Check.kept(x);
            Check.due("kept", behind.substring(0, behind.indexOf(" share")), before.substring(0, before.indexOf(" share")));
        });
        int[][] wrong = {{2, 0}, {-1, 0}, {0, 3}, {0, -1}, {2, 3}, {6, 0}, {0, 8}};
        for (int[] k : wrong) {
            Check.edge("28 no such PERSON, SORT: " + k[0] + " " + k[1], () -> {
                TwoForOne x = Check.town(text);
                Check.none("none is kept", () -> x.shared(k[0], k[1]));
                x.share(0);
                Check.none("one is kept", () -> x.shared(k[0], k[1]));
                Check.due("it stays", x.shared(1, 0), 20);
            });
        }
        for (int k : FAR) {
            Check.edge("28 no such PERSON, SORT: " + k, () -> {
                TwoForOne x = Check.town(text);
                x.share(0);
                Check.none("shared", () -> x.shared(k, 0));
                Check.none("shared", () -> x.shared(0, k));
            });
        }
        Check.edge("28 none is kept", () -> {
            TwoForOne x = Check.town(text);
            Check.none("shared", () -> x.shared(0, 0));
            x.order();
            x.come(0, 0);
            Check.none("shared", () -> x.shared(0, 0));
        });
        Check.edge("28 the first and the last", () -> {
            TwoForOne x = Check.town("sorts 8;person;person;person;person;person;person has 7 1 worth 7 1;");
            x.share(0);
            Check.due("first", x.shared(0, 0), 0);
            Check.due("last", x.shared(5, 7), 1);
        });
    }

    private static void laws() {
        String[] towns = {"sorts 4;LAW;person has 0 4 has 2 2 worth 1 9 worth 3 5;person has 1 6 has 3 2 worth 0 2 worth 1 1 worth 2 3 pair 0 2 8;meet 0 1;",
            "sorts 3;LAW;person has 0 9 has 1 3 worth 2 9 falls 10;person has 2 7 worth 0 4 worth 1 3 worth 2 2 falls 20;meet 1 0;meet 0 1;"};
        for (int t = 0; t < towns.length; t++) {
            for (int spoon = -1; spoon < 2; spoon++) {
                for (int k = 0; k < 6; k++) {
                    int law = k;
                    String tail = spoon < 0 ? "" : " spoon " + spoon;
                    String told = towns[t].replace("LAW", "law " + (k / 2 + 1) + tail + (k % 2 == 1 ? " burns" : ""));
                    String other = towns[t].replace("LAW", "law " + (3 - k / 2) + tail + (k % 2 == 0 ? " burns" : ""));
                    Check.edge("29 LAW " + k + tail + ": as THE END of town " + t + " that tells it", () -> {
                        TwoForOne x = Check.town(other);
                        TwoForOne y = Check.town(told);
                        String before = Check.all(x);
                        Check.due("things", x.law(law, 0), y.end(1));
                        Check.due("worth", x.law(law, 1), y.end(2));
                        Check.due("its own", y.law(law, 1), y.end(2));
                        Check.due("nothing changes", Check.all(x), before);
                    });
                }
            }
        }
        Check.edge("29 no law is told: six LAWS without a SPOON", () -> {
            TwoForOne x = Check.town("sorts 3;person has 0 2 worth 1 10;person has 1 1 worth 0 4 pair 0 2 5;meet 0 1;");
            int[] things = {3, 3, 3, 2, 3, 3};
            int[] worths = {1400, 1400, 1800, 1400, 0, 0};
            for (int k = 0; k < 6; k++) {
                Check.due("things", x.law(k, 0), things[k]);
                Check.due("worth", x.law(k, 1), worths[k]);
            }
        });
        Check.edge("29 60 DAYS at most", () -> {
            TwoForOne x = Check.town(SIXTY_ONE.replace("law 1", "law 2"));
            Check.due("worth", x.law(0, 1), 12000);
            Check.due("just 60", Check.town(SIXTY.replace("law 1", "law 2")).law(0, 1), 12000);
        });
        int[][] wrong = {{6, 0}, {-1, 0}, {0, 2}, {0, -1}, {6, 1}, {-1, 1}, {5, 2}, {5, -1}, {6, 2}};
        for (int[] k : wrong) {
            Check.edge("29 no such LAW, what: " + k[0] + " " + k[1], () -> {
                TwoForOne x = Busy.fed();
                String before = Check.all(x);
                Check.none("law", () -> x.law(k[0], k[1]));
                Check.due("all", Check.all(x), before);
                Busy.imageIsThere(x);
            });
        }
        for (int k : FAR) {
            Check.edge("29 no such LAW, what: " + k, () -> {
                TwoForOne x = Check.town("person;person;");
                Check.none("law", () -> x.law(k, 0));
                Check.none("law", () -> x.law(0, k));
            });
        }
        Check.edge("29 behind it all goes on by the LAW that is told", () -> {
            TwoForOne x = Check.town("sorts 3;law 2 spoon 0 burns;person has 0 4 has 1 1;person has 2 3;");
            x.law(5, 0);
            x.best();
            Check.due("gives", x.count(2), 2);
            Check.due("spoon", x.count(3), 0);
            Check.due("burns", x.count(4), 1);
            Check.due("trade", x.trade(0, 1, 11, 2), true);
            Check.due("bags", Check.bags(x), "3 0 1 / 0 1 2");
            Check.none("no number of three", () -> x.look(0, 1, 92, 2, 0));
        });
    }

    private static void best() {
        Check.edge("30 BEST LAW: of like ones the least: all", () -> Check.due("best", Check.town("sorts 2;person has 0 1 worth 0 1;").best(), 0));
        Check.edge("30 BEST LAW: of like ones the least: two", () -> {
            TwoForOne x = Check.town("sorts 3;person has 0 2 worth 1 10;person has 1 1 worth 0 4 pair 0 2 5;meet 0 1;");
            Check.due("0 is as 1", x.law(0, 1), x.law(1, 1));
            Check.due("best", x.best(), 2);
        });
        Check.edge("30 BEST LAW: nobody", () -> Check.due("best", new TwoForOne().best(), 0));
        String[] towns = {BEST_0, BEST_2, BEST_3, BEST_4, BEST_5};
        int[] laws = {0, 2, 3, 4, 5};
        for (int k = 0; k < towns.length; k++) {
            String text = towns[k];
            int law = laws[k];
            Check.edge("30 BEST LAW: " + law + " has more than all ahead of it, no less than all behind it", () -> {
                TwoForOne x = Check.town(text);
                String before = Check.all(x);
                for (int other = 0; other < 6; other++) {
                    boolean fits = other < law ? x.law(other, 1) < x.law(law, 1) : x.law(other, 1) <= x.law(law, 1);
                    Check.due("law " + other + " beside it", fits, true);
                }
                Check.due("best", x.best(), law);
                Check.due("nothing changes", Check.all(x), before);
            });
        }
    }

    private static final String BEST_0 = "sorts 3;law 3;person has 0 4 has 2 2 worth 1 9;person has 1 6 worth 0 2 worth 1 1 worth 2 3;meet 0 1;";
    private static final String BEST_2 = "sorts 3;law 3;person has 0 2 worth 1 10;person has 1 1 worth 0 4 pair 0 2 5;meet 0 1;";
    private static final String BEST_3 = "sorts 6;law 1;person has 0 1 has 1 1 worth 2 9;"
            + "person has 2 1 has 4 1 worth 0 1 worth 3 2 worth 4 3 worth 5 50;person has 3 1 worth 0 9;"
            + "person has 5 1 worth 0 90;meet 0 1;meet 1 2;meet 1 3;";
    private static final String BEST_4 = "sorts 3;law 1;person has 0 3 worth 1 10;person has 1 1 worth 0 4 worth 1 9;meet 0 1;";
    private static final String BEST_5 = "sorts 3;person has 1 4 worth 0 8;person has 0 3 worth 1 6;person has 1 6 worth 0 9;meet 0 1;meet 1 2;";
}
