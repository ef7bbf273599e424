/** Part 3 and promises 14 to 19: COME, POOR, MOST, FREELY, their limits, what they keep; each boundary case by itself. */
public final class EdgesOfWaysTest {
    private static final int[] FAR = {Integer.MIN_VALUE, Integer.MIN_VALUE + 1, -65536, -256, -3, -2, 8, 9, 256, 65536, Integer.MAX_VALUE};
    /** By ties alone 10 by 10 by 10 states. */
    private static final String THOUSAND = "sorts 8;person has 0 18 has 2 18 has 4 18;tie 0 0 1;tie 2 2 3;tie 4 4 5;";
    /** By ties alone 13 by 11 by 7 states. */
    private static final String ONE_MORE = "sorts 8;person has 0 12 has 1 12 has 3 20 has 5 12;tie 0 1 2;tie 3 3 4;tie 5 5 6;";
    private static final String LAST_OF_THOUSAND = "sorts 7;person has 0 10 has 4 9 has 1 8 worth 4 5 worth 6 1 worth 5 8;"
            + "person has 3 18 has 6 2 has 4 3 has 1 19;tie 2 2 5;tie 0 3 2;";
    private static final String BEHIND_THOUSAND = "sorts 6;person has 3 4 has 5 7 has 2 7;"
            + "person has 2 3 has 5 4 worth 0 5 worth 1 1 worth 5 9;person has 1 10 has 5 6 worth 3 1 worth 0 9;law 3;tie 3 0 4;tie 3 1 0;";

    static void step(TwoForOne x, int i, int a, int b, int given, int z) {
        int[] parts = {a, b, given, z};
        for (int what = 0; what < 4; what++) {
            Check.due("step " + i + " " + what, x.step(i, what), parts[what]);
        }
    }

    private static void come(String sentence, int want, int person, int sort, String text) {
        Check.edge("14 COME: " + sentence, () -> {
            TwoForOne x = Check.town(text);
            String before = Check.bags(x);
            Check.due("come", x.come(person, sort), want);
            for (int i = 0; i < want; i++) {
                Check.due("a step", x.step(i, 0) >= 0, true);
            }
            Check.none("behind the last step", () -> x.step(Math.max(0, want), 0));
            Check.due("nothing changes", Check.bags(x), before);
            Check.due("nothing is refused", x.count(9) + x.count(10) + x.count(11), 0);
        });
    }

    public static void main(String[] args) {
        comeWays();
        comeBetters();
        comeFirst();
        comeLimit();
        comeKeeps();
        steps();
        poorBags();
        poorLimits();
        poorKeeps();
        most();
        mostLimit();
        freely();
        wrongOnes();
        Check.end();
    }

    private static void comeWays() {
        come("he has one of it: no step", 0, 0, 0, "person has 0 1;");
        come("he has many of it: no step", 0, 0, 0, "person has 0 20;");
        come("nobody has it, no tie makes it", -1, 0, 1, "sorts 2;person has 0 20;person has 0 20;");
        come("he has nothing at all", -1, 0, 1, "sorts 2;law 1;person;person has 1 5 worth 0 9;");
        come("he is alone", -1, 0, 1, "sorts 2;law 1;person has 0 5;");
        come("as a", 1, 0, 1, "sorts 2;law 1;person has 0 1;person has 1 1 worth 0 9;");
        come("as b", 1, 0, 1, "sorts 3;person has 2 1;person has 0 1 has 1 1 worth 2 9;");
        come("as b alone: for two he has too little", 1, 0, 1, "sorts 3;person has 2 1;person has 1 2 worth 2 9;");
        come("a TIE of his own", 1, 0, 2, "sorts 3;person has 0 1 has 1 1;tie 0 1 2;");
        come("a TIE of another one's is not for him", -1, 0, 2, "sorts 3;law 1;person has 0 1;person has 0 1 has 1 1 worth 0 9;tie 0 1 2;");
        come("TRADES of others are not for him", -1, 0, 2, "sorts 3;law 1;person has 0 1;person has 1 1 worth 2 5;person has 2 1 worth 1 9;");
        come("a trade, then a tie", 2, 0, 3, "sorts 4;law 1;person has 0 2;person has 1 1 worth 0 9;tie 0 1 3;");
        come("a tie, then a trade", 2, 0, 3, "sorts 4;law 1;person has 0 2;person has 3 1 worth 1 9;tie 0 0 1;");
        come("three trades", 3, 0, 3, "sorts 4;law 1;person has 0 1;person has 1 1 worth 0 9;person has 2 1 worth 1 9;person has 3 1 worth 2 9;");
        come("the least number: one, not three", 1, 0, 3,
                "sorts 4;law 1;person has 0 1;person has 1 1 worth 0 9;person has 2 1 worth 1 9;person has 3 1 worth 2 9 worth 0 1;");
        come("the SPOON must be among them", -1, 0, 1, "sorts 3;law 1 spoon 2;person has 0 5;person has 1 1 worth 0 9;");
        come("the SPOON is among them", 1, 0, 1, "sorts 3;law 1 spoon 0;person has 0 1;person has 1 1 worth 0 9;");
        come("what burns is gone on the way", -1, 0, 2,
                "sorts 3;law 2 burns;person has 0 2;person has 1 1 worth 0 9;person has 2 1 worth 1 9;");
        come("as b, what does not burn is all his", 1, 0, 1, "sorts 4;law 2;person has 3 1;person has 0 1 has 1 1 worth 3 9;");
        come("as b, what burns is not his", -1, 0, 1, "sorts 4;law 2 burns;person has 3 1;person has 0 1 has 1 1 worth 3 9;");
    }

    private static void comeBetters() {
        String text = "sorts 2;law 1;person has 0 1 worth 0 %d worth 1 %d;person has 1 1 worth 0 %d worth 1 %d;";
        come("it BETTERS the other one", 1, 0, 1, text.formatted(0, 0, 3, 2));
        come("the other one is as well as before", -1, 0, 1, text.formatted(0, 0, 2, 2));
        come("the other one is worse", -1, 0, 1, text.formatted(0, 0, 1, 2));
        come("all is worth nothing to the other one", -1, 0, 1, text.formatted(9, 9, 0, 0));
        come("he himself may lose", 1, 0, 1, text.formatted(99, 0, 1, 0));
        come("he himself may win", 1, 0, 1, text.formatted(0, 99, 1, 0));
        come("it BETTERS by the least", 1, 0, 1, "sorts 2;law 1;person has 0 1;person has 1 1 has 0 1 worth 0 1 falls 99;");
        come("it doesn't BETTER any more, by FALLS", -1, 0, 1, "sorts 2;law 1;person has 0 1;person has 1 1 has 0 1 worth 0 1 falls 100;");
        come("it BETTERS by a PAIR", 1, 0, 1, "sorts 3;law 1;person has 0 1;person has 1 1 has 2 1 pair 0 2 1;");
        come("it takes a PAIR away", -1, 0, 1, "sorts 3;law 1;person has 0 1;person has 1 1 has 2 1 worth 0 5 pair 1 2 5;");
        come("it does not take the PAIR away: he has two", 1, 0, 1, "sorts 3;law 1;person has 0 1;person has 1 2 has 2 1 worth 0 5 pair 1 2 5;");
        come("as b: it BETTERS the other one", 1, 0, 1, "sorts 3;person has 2 1;person has 1 2 worth 2 3 worth 1 1;");
        come("as b: the other one is as well as before", -1, 0, 1, "sorts 3;person has 2 1;person has 1 2 worth 2 2 worth 1 1;");
    }

    private static void comeFirst() {
        Check.edge("14 COME: of like ones the first: the least a, he as b", () -> {
            TwoForOne x = Check.town("sorts 3;law 1;person has 1 1 worth 0 9;person has 0 1;person has 1 1 worth 0 9;");
            Check.due("come", x.come(1, 1), 1);
            step(x, 0, 0, 1, 2, 0);
        });
        Check.edge("14 COME: of like ones the first: the least b", () -> {
            TwoForOne x = Check.town("sorts 3;law 1;person has 0 1;person has 1 1 worth 0 9;person has 1 1 worth 0 99;");
            Check.due("come", x.come(0, 1), 1);
            step(x, 0, 0, 1, 1, 1);
        });
        Check.edge("14 COME: of like ones the first: the least given, as a row", () -> {
            TwoForOne x = Check.town("sorts 4;person has 0 1 has 1 2 has 2 1;person has 3 1 worth 1 9 worth 2 9;");
            Check.due("come", x.come(0, 3), 1);
            step(x, 0, 0, 1, 11, 3);
        });
        Check.edge("14 COME: of like ones the first: the least z", () -> {
            TwoForOne x = Check.town("sorts 4;law 1;person has 1 1 worth 3 9 worth 2 1;person has 2 1 has 3 1 worth 0 1;person;");
            Check.due("come", x.come(1, 1), 1);
            step(x, 0, 0, 1, 2, 2);
        });
        Check.edge("14 COME: of like ones the first: TIES are behind all TRADES", () -> {
            TwoForOne x = Check.town("sorts 3;law 1;person has 2 1 worth 0 9;person has 0 2;tie 0 0 2;");
            Check.due("come", x.come(1, 2), 1);
            step(x, 0, 0, 1, 3, 0);
        });
        Check.edge("14 COME: of like ones the first: the least TIE", () -> {
            TwoForOne x = Check.town("sorts 4;person has 0 2 has 1 2;tie 0 0 2;tie 1 1 3;tie 0 1 3;");
            Check.due("come", x.come(0, 3), 1);
            step(x, 0, 0, -1, 1, -1);
        });
        Check.edge("14 COME: of like ones the first as a row: by its first step, not by its second", () -> {
            TwoForOne x = Check.town("sorts 5;law 1;person has 0 1;person has 1 1 worth 0 5;person has 2 1 worth 0 5;"
                    + "person has 4 1 worth 2 5;person has 4 1 worth 1 5;");
            Check.due("come", x.come(0, 4), 2);
            step(x, 0, 0, 1, 1, 1);
            step(x, 1, 0, 4, 2, 4);
        });
        Check.edge("14 COME: of like ones the first as a row: a way that comes to the same STATE", () -> {
            TwoForOne x = Check.town("sorts 6;person has 0 2 has 2 2;tie 2 2 3;tie 0 0 1;tie 1 3 4;");
            Check.due("come", x.come(0, 4), 3);
            step(x, 0, 0, -1, 0, -1);
            step(x, 1, 0, -1, 1, -1);
            step(x, 2, 0, -1, 2, -1);
        });
    }

    private static void comeLimit() {
        come("1000 STATES, no way", -1, 0, 6, THOUSAND);
        come("1001 STATES: SPENT", -2, 0, 7, ONE_MORE);
        come("1000 STATES by TRADES, no way", -1, 0, 2, "sorts 7;person has 0 1 has 1 9 has 5 11;"
                + "person has 3 19 has 5 3 worth 1 18 worth 2 6 worth 4 16;tie 5 4 3;tie 4 3 1;");
        come("1001 STATES by TRADES: SPENT", -2, 1, 4,
                "sorts 6;person has 1 2 has 2 10 has 3 5 has 5 4 worth 2 6 worth 5 5;"
                + "person has 2 4 has 3 3 worth 0 16 worth 2 13 worth 4 7;law 2;tie 5 3 1;tie 5 5 0;");
        come("the answer is the 1000th STATE", 4, 1, 5, LAST_OF_THOUSAND);
        come("the answer is the 1001st STATE: SPENT", -2, 0, 4, BEHIND_THOUSAND);
        come("very many STATES: SPENT", -2, 0, 7, "sorts 8;law 1;" + "person has 0 20 has 1 20 has 2 20 worth 3 9 worth 4 9 worth 5 9;"
                + "person has 3 20 has 4 20 has 5 20 worth 0 9 worth 1 9 worth 2 9;");
        come("very many STATES, but the answer is ahead of the 1001st", 1, 0, 6, ONE_MORE);
        come("very many STATES, but he has it", 0, 0, 0, ONE_MORE);
        Check.edge("14 COME: SPENT as often as it is asked, and not where it isn't", () -> {
            TwoForOne x = Check.town(ONE_MORE);
            for (int k = 0; k < 4; k++) {
                Check.due("spent", x.come(0, 7), -2);
                Check.due("a way", x.come(0, 6), 1);
                Check.due("spent", x.most(), -2);
                Check.due("a way", x.come(0, 4), 1);
            }
        });
        Check.edge("14 COME: by one thing less it isn't SPENT", () -> {
            TwoForOne x = Check.town(ONE_MORE);
            Check.due("spent", x.come(0, 7), -2);
            Check.due("tie", x.tie(0, 0), true);
            Check.due("12 by 11 by 7", x.come(0, 7), -1);
        });
    }

    private static void comeKeeps() {
        String text = "sorts 8;person has 0 12 has 1 12 has 3 20 has 5 12;person;tie 0 1 2;tie 3 3 4;tie 5 5 6;";
        Check.edge("14 the way is kept", () -> {
            TwoForOne x = Check.town(text);
            x.come(0, 6);
            step(x, 0, 0, -1, 2, -1);
        });
        Check.edge("14 NONE: what is kept stays", () -> {
            TwoForOne x = Check.town(text);
            x.come(0, 6);
            Check.due("come", x.come(1, 7), -1);
            step(x, 0, 0, -1, 2, -1);
        });
        Check.edge("14 -2: what is kept stays", () -> {
            TwoForOne x = Check.town(text);
            x.come(0, 6);
            Check.due("come", x.come(0, 7), -2);
            step(x, 0, 0, -1, 2, -1);
        });
        Check.edge("14 NONE, -2, where nothing is kept: nothing is kept", () -> {
            TwoForOne x = Check.town(text);
            x.come(1, 7);
            x.come(0, 7);
            Check.none("step", () -> x.step(0, 0));
        });
        Check.edge("14 what throws: what is kept stays", () -> {
            TwoForOne x = Check.town(text);
            x.come(0, 6);
            Check.none("come", () -> x.come(2, 0));
            Check.none("come", () -> x.come(0, 8));
            step(x, 0, 0, -1, 2, -1);
        });
        Check.edge("14 a way of no step is kept, too: in place of another one", () -> {
            TwoForOne x = Check.town(text);
            x.come(0, 6);
            Check.due("come", x.come(0, 0), 0);
            Check.none("step", () -> x.step(0, 0));
        });
        Check.edge("14 a shorter way in place of a longer one", () -> {
            TwoForOne x = Check.town("sorts 4;person has 0 4;tie 0 0 1;tie 1 1 2;");
            Check.due("three steps", x.come(0, 2), 3);
            Check.due("one step", x.come(0, 1), 1);
            Check.none("no second one", () -> x.step(1, 0));
        });
        Check.edge("14 the bag, the order, the share stay", () -> {
            TwoForOne x = Busy.town();
            String before = Check.kept(x);
            String rest = before.substring(before.indexOf(" bag"));
            Check.due("come", x.come(0, 0), 0);
            Check.due("kept", Check.kept(x), " way" + rest);
        });
        Check.edge("15 the way that is kept stays, whatever is done", () -> {
            TwoForOne x = Busy.town();
            String before = Check.kept(x);
            x.trade(0, 1, 11, 2);
            x.tie(1, 0);
            x.days(3);
            x.meet(0, 1);
            x.run(5, 5);
            x.restore();
            Check.due("kept", Check.kept(x), before);
        });
    }

    private static void steps() {
        String text = "sorts 4;law 1;person has 0 2;person has 1 1 worth 0 9;tie 0 1 3;";
        Check.edge("15 the first and the last step, the first and the last what", () -> {
            TwoForOne x = Check.town(text);
            Check.due("come", x.come(0, 3), 2);
            step(x, 0, 0, 1, 1, 1);
            step(x, 1, 0, -1, 0, -1);
        });
        int[][] wrong = {{2, 0}, {2, 3}, {-1, 0}, {0, 4}, {0, -1}, {1, 4}, {1, -1}, {2, 4}, {-1, -1}};
        for (int[] k : wrong) {
            Check.edge("15 there is none, another what: " + k[0] + " " + k[1], () -> {
                TwoForOne x = Check.town(text);
                x.come(0, 3);
                Check.none("step", () -> x.step(k[0], k[1]));
                Check.due("the way stays", x.step(1, 2), 0);
            });
        }
        for (int k : FAR) {
            Check.edge("15 there is none, another what: " + k, () -> {
                TwoForOne x = Check.town(text);
                x.come(0, 3);
                Check.none("step", () -> x.step(k, 0));
                Check.none("step", () -> x.step(0, k));
            });
        }
        Check.edge("15 the given as a NUMBER of three figures, the greatest", () -> {
            TwoForOne x = Check.town("sorts 8;law 3;person;person;person;person;person has 0 1 worth 7 1;person has 7 3;");
            Check.due("come", x.come(5, 0), 1);
            step(x, 0, 5, 4, 728, 0);
        });
        Check.edge("15 the last TIE of the last one", () -> {
            TwoForOne x = Check.town("sorts 8;person;person;person;person;person;person has 7 2;tie 0 0 6;tie 0 1 6;tie 1 1 6;tie 7 7 6;");
            Check.due("come", x.come(5, 6), 1);
            step(x, 0, 5, -1, 3, -1);
        });
    }

    private static void poor(String sentence, int want, String bag, int person, int sort, String text) {
        Check.edge("16 POOR: " + sentence, () -> {
            TwoForOne x = Check.town(text);
            String before = Check.bags(x);
            Check.due("poor", x.poor(person, sort), want);
            if (want >= 0) {
                StringBuilder row = new StringBuilder();
                for (int s = 0; s < x.count(1); s++) {
                    row.append(s > 0 ? " " : "").append(x.bag(s));
                }
                Check.due("bag", row.toString(), bag);
            } else {
                Check.none("bag", () -> x.bag(0));
            }
            Check.none("no way is kept by it", () -> x.step(0, 0));
            Check.due("nothing changes", Check.bags(x), before);
        });
    }

    private static void poorBags() {
        poor("he has it: one of it", 1, "0 1", 0, 1, "sorts 2;person has 0 5 has 1 5;");
        poor("he has just one of it", 1, "1", 0, 0, "person has 0 1;");
        poor("he has nothing: with none of his bags", -1, "", 0, 1, "sorts 2;person;person has 1 5 worth 0 9;");
        poor("with none of his bags", -1, "", 0, 1, "sorts 2;person has 0 5;person has 1 5;");
        poor("all of his things", 2, "1 1 0", 0, 2, "sorts 3;person has 0 1 has 1 1;tie 0 1 2;");
        poor("all but one of his things", 2, "1 1 0", 0, 2, "sorts 3;person has 0 2 has 1 1;tie 0 1 2;");
        poor("of one number the least first: SORT 0 is the first of the row", 1, "0 1 0", 0, 2,
                "sorts 3;law 1;person has 0 1 has 1 1;person has 2 1 worth 0 9 worth 1 9;");
        poor("of one number the least first", 2, "0 2 0", 0, 2, "sorts 3;person has 0 2 has 1 2;person has 2 1 worth 0 9 worth 1 9;");
        poor("of one number the least first: the next one", 2, "1 1 0", 0, 2, "sorts 3;person has 0 2 has 1 2;person has 2 1 worth 0 9 worth 1 1 worth 2 2;");
        poor("of one number the least first: the last one", 2, "2 0 0", 0, 2, "sorts 3;person has 0 2 has 1 2;person has 2 1 worth 0 2 worth 2 3;");
        poor("fewer things are ahead of a smaller row", 1, "1 0 0", 0, 2, "sorts 3;law 1;person has 0 1 has 1 20;person has 2 1 worth 0 9;tie 1 1 0;");
        poor("all others as they are", 1, "1 0 0", 0, 2, "sorts 3;law 1;person has 0 3;person has 1 1 worth 0 9;person has 2 1 worth 1 9;");
        poor("his other things are nowhere: FALLS of the other one don't see them", 1, "1 0", 0, 1,
                "sorts 2;law 1;person has 0 20;person has 1 1 worth 0 1 falls 100;");
        poor("he could COME to it as b", 1, "0 0 1", 0, 1, "sorts 3;person has 2 4;person has 1 2 worth 2 9;");
        poor("not more of a SORT than he has", -1, "", 0, 1, "sorts 2;law 3;person has 0 2;person has 1 1 worth 0 9;");
        poor("just as many of a SORT as he has", 3, "3 0", 0, 1, "sorts 2;law 3;person has 0 3;person has 1 1 worth 0 9;");
    }

    /** By ties four of both are needed; with so many others of SORT 0 the bag of just these comes later and later. */
    private static String later(int others) {
        return "sorts 6;person has 0 " + others + " has 1 4 has 2 4;tie 1 2 3;tie 3 3 4;tie 4 4 5;";
    }

    private static void poorLimits() {
        poor("100 bags, none of them", -1, "", 0, 2, "sorts 3;person has 0 9 has 1 9;");
        poor("100 bags of three SORTS, none of them", -1, "", 0, 3, "sorts 4;person has 0 4 has 1 3 has 2 4;");
        poor("102 bags: SPENT", -2, "", 0, 2, "sorts 3;person has 0 16 has 1 5;");
        poor("the 100th bag, there are more", 8, "0 4 4 0 0 0", 0, 5, later(6));
        poor("the 101st bag: SPENT", -2, "", 0, 5, later(7));
        poor("the 101st bag: SPENT", -2, "", 0, 5, later(20));
        poor("the 100th bag is the last", 18, "9 9 0 0 0", 0, 4, "sorts 5;law 3;person has 0 9 has 1 9;"
                + "person has 3 3 worth 2 5 worth 3 14;person has 4 1 worth 3 5 worth 4 14;tie 0 1 2;");
        poor("very many bags, but an early one", 1, "0 0 0 0 0 0 0 1", 0, 7,
                "sorts 8;person has 0 20 has 1 20 has 2 20 has 3 20 has 4 20 has 5 20 has 6 20 has 7 20;");
        Check.edge("16 POOR: 101 bags: SPENT, the empty bag is one of them", () -> {
            TwoForOne x = Check.town("sorts 4;person has 0 20 has 1 20 has 2 20;" + "person has 0 20;".repeat(4));
            for (int k = 0; k < 40; k++) {
                Check.due("trade", x.trade(1 + k / 10, 0, 10, k < 20 ? 1 : 2), true);
            }
            Check.due("bag", Check.bag(x, 0), "100 0 0 0");
            Check.due("poor", x.poor(0, 3), -2);
        });
        Check.edge("16 POOR: 100 bags of one SORT, none of them", () -> {
            TwoForOne x = Check.town("sorts 4;person has 0 19 has 1 20 has 2 20;" + "person has 0 20;".repeat(4));
            for (int k = 0; k < 40; k++) {
                Check.due("trade", x.trade(1 + k / 10, 0, 10, k < 20 ? 1 : 2), true);
            }
            Check.due("bag", Check.bag(x, 0), "99 0 0 0");
            Check.due("poor", x.poor(0, 3), -1);
        });
        poor("a bag of 300 STATES, none", -1, "", 0, 2, "sorts 3;person has 0 20;person worth 2 17;person has 1 13 worth 0 16 worth 1 4;tie 0 0 1;");
        poor("a bag of 301 STATES: SPENT", -2, "", 0, 5, "sorts 6;person has 0 5 worth 0 17 worth 2 13;"
                + "person has 0 1 has 2 2 has 3 20 has 4 16 worth 0 3;tie 1 1 3;");
        poor("the answer is the 300th STATE", 6, "6 0 0 0 0 0", 1, 2, "sorts 6;person has 1 5 has 4 4 has 5 4 worth 2 2 worth 5 8 worth 0 5;"
                + "person has 0 6 worth 0 3 worth 1 7 worth 3 3;tie 5 0 3;tie 1 2 4;tie 3 3 2;");
        poor("the answer is the 301st STATE: SPENT", -2, "", 2, 3, "sorts 7;person has 0 4 has 4 4 has 1 7 worth 6 4;"
                + "person has 6 1 has 5 2 has 2 3 has 1 4 worth 1 9 worth 4 1;person has 4 4 has 6 4;law 3;tie 3 5 6;tie 4 6 3;");
        Check.edge("16 POOR: COME from all he has goes on to 1000, POOR from a bag to 300", () -> {
            String text = "sorts 6;person has 0 5 worth 0 17 worth 2 13;person has 0 1 has 2 2 has 3 20 has 4 16 worth 0 3;tie 1 1 3;";
            TwoForOne x = Check.town(text);
            Check.due("poor", x.poor(0, 5), -2);
            Check.due("come", x.come(0, 5), -1);
        });
        String others = "person has 3 15 worth 1 1;person has 1 13 worth 0 3 worth 3 7;tie 1 0 2;";
        poor("one that is tried is SPENT, a later one is not", -2, "", 0, 2, "sorts 4;person has 0 1 has 1 1;" + others);
        poor("the later one by itself", 1, "1 0 0 0", 0, 2, "sorts 4;person has 0 1;" + others);
    }

    private static void poorKeeps() {
        String text = "sorts 6;person has 0 5 has 5 1 worth 0 17 worth 2 13;person has 0 1 has 2 2 has 3 20 has 4 16 worth 0 3;"
                + "person;tie 1 1 3;";
        Check.edge("16 the bag is kept", () -> {
            TwoForOne x = Check.town(text);
            Check.due("poor", x.poor(0, 5), 1);
            Check.due("bag", x.bag(5), 1);
        });
        Check.edge("16 NONE: what is kept stays", () -> {
            TwoForOne x = Check.town(text);
            x.poor(0, 5);
            Check.due("poor", x.poor(2, 0), -1);
            Check.due("bag", x.bag(5), 1);
            Check.due("bag", x.bag(0), 0);
        });
        Check.edge("16 -2: what is kept stays", () -> {
            TwoForOne x = Check.town("sorts 4;person has 0 16 has 1 5;");
            Check.due("poor", x.poor(0, 1), 1);
            Check.due("poor", x.poor(0, 2), -2);
            Check.due("bag", x.bag(1), 1);
            Check.due("bag", x.bag(0), 0);
        });
        Check.edge("16 what throws: what is kept stays", () -> {
            TwoForOne x = Check.town(text);
            x.poor(0, 5);
            Check.none("poor", () -> x.poor(3, 5));
            Check.none("poor", () -> x.poor(0, 6));
            Check.due("bag", x.bag(5), 1);
        });
        Check.edge("16 the way, the order, the share stay", () -> {
            TwoForOne x = Busy.town();
            String before = Check.kept(x);
            Check.due("poor", x.poor(1, 0), 1);
            Check.due("kept", Check.kept(x), before);
            Check.due("poor", x.poor(0, 1), 1);
            Check.due("kept", Check.kept(x), before.replace(" bag 1 0 0", " bag 0 1 0"));
        });
        Check.edge("17 of each SORT, the first and the last", () -> {
            TwoForOne x = Check.town("sorts 8;person has 0 1 has 7 1;tie 0 7 3;");
            Check.due("poor", x.poor(0, 3), 2);
            Check.due("first", x.bag(0), 1);
            Check.due("last", x.bag(7), 1);
            Check.due("another one", x.bag(3), 0);
        });
        Check.edge("17 none is kept", () -> {
            TwoForOne x = Check.town(text);
            Check.none("bag", () -> x.bag(0));
            x.come(0, 5);
            x.poor(2, 0);
            Check.none("bag", () -> x.bag(0));
        });
        for (int sort : new int[] {-1, 6, 7, 8, 256, 65536, Integer.MAX_VALUE, Integer.MIN_VALUE}) {
            Check.edge("17 no such SORT: " + sort, () -> {
                TwoForOne x = Check.town(text);
                Check.none("none is kept", () -> x.bag(sort));
                x.poor(0, 5);
                Check.none("one is kept", () -> x.bag(sort));
                Check.due("it stays", x.bag(5), 1);
            });
        }
    }

    private static void most() {
        Check.edge("18 MOST: no PEOPLE", () -> Check.due("most", Check.town("sorts 2;").most(), 0));
        Check.edge("18 MOST: nothing can be done: as it is NOW", () -> {
            TwoForOne x = Check.town("person has 0 3 worth 0 2;");
            Check.due("most", x.most(), 600);
            Check.none("no step", () -> x.step(0, 0));
        });
        Check.edge("18 MOST: all is worth nothing: the first STATE", () -> {
            TwoForOne x = Check.town("sorts 2;law 1;person has 0 1;person has 1 1;");
            Check.due("most", x.most(), 0);
            Check.none("no step", () -> x.step(0, 0));
        });
        Check.edge("18 MOST: wanted or not: a loss to a", () -> {
            TwoForOne x = Check.town("sorts 2;law 1;person has 0 1 worth 0 5;person has 1 1 worth 0 9;");
            Check.due("most", x.most(), 900);
            step(x, 0, 0, 1, 1, 1);
        });
        Check.edge("18 MOST: wanted or not: a loss to b", () -> {
            TwoForOne x = Check.town("sorts 2;law 1;person has 0 1 worth 1 9;person has 1 1 worth 1 5;");
            Check.due("most", x.most(), 900);
            step(x, 0, 0, 1, 1, 1);
        });
        Check.edge("18 MOST: by all, TIES too", () -> {
            TwoForOne x = Check.town("sorts 2;person;person has 0 2 worth 1 7;person has 0 2 worth 1 5 worth 0 1;tie 0 0 1;");
            Check.due("most", x.most(), 1200);
            step(x, 0, 1, -1, 0, -1);
            step(x, 1, 2, -1, 0, -1);
            Check.none("no third step", () -> x.step(2, 0));
        });
        Check.edge("18 MOST: of like ones the STATE that is come to first", () -> {
            TwoForOne x = Check.town("sorts 3;law 1;person has 0 1;person has 1 1 worth 0 4;person has 2 1 worth 0 4;");
            Check.due("most", x.most(), 400);
            step(x, 0, 0, 1, 1, 1);
            Check.none("no second step", () -> x.step(1, 0));
        });
        Check.edge("18 MOST: two PEOPLE make a TRADE: nobody burns by himself", () -> {
            TwoForOne x = Check.town("sorts 4;law 2 burns;person has 0 20 has 1 20 has 2 20 has 3 20 worth 0 1;");
            Check.due("most", x.most(), 2000);
        });
        Check.edge("18 MOST: more by a hundredth is more", () -> {
            TwoForOne x = Check.town("sorts 2;law 1;person has 0 1 has 1 1 worth 1 1 falls 99;person has 1 1;");
            Check.due("most", x.most(), 101);
            step(x, 0, 0, 1, 1, 1);
        });
        Check.edge("18 MOST: its row is kept in place of another one", () -> {
            TwoForOne x = Check.town("sorts 3;person has 0 4;tie 0 0 1;tie 1 1 2;");
            Check.due("come", x.come(0, 2), 3);
            Check.due("most", x.most(), 0);
            Check.none("no step", () -> x.step(0, 0));
            Check.due("come", x.come(0, 1), 1);
            step(x, 0, 0, -1, 0, -1);
        });
        Check.edge("18 MOST: nothing changes, the bag, the order, the share stay", () -> {
            TwoForOne x = Busy.town();
            String before = Check.kept(x);
            String bags = Check.bags(x);
            x.most();
            String behind = Check.kept(x);
            Check.due("kept", behind.substring(behind.indexOf(" bag")), before.substring(before.indexOf(" bag")));
            Check.due("bags", Check.bags(x), bags);
        });
    }

    private static void mostLimit() {
        Check.edge("18 MOST: 400 STATES, the greatest is the last of them", () -> {
            TwoForOne x = Check.town("sorts 6;person has 0 19 has 1 19 has 3 19 has 4 19 worth 2 1 worth 5 1;tie 0 1 2;tie 3 4 5;");
            Check.due("most", x.most(), 3800);
            step(x, 37, 0, -1, 1, -1);
            Check.none("no step 38", () -> x.step(38, 0));
        });
        Check.edge("18 MOST: 400 STATES by TRADES", () -> {
            TwoForOne x = Check.town("sorts 4;person has 0 10;person has 1 3 has 2 2 worth 0 1 worth 2 1;tie 2 1 0;tie 1 1 3;");
            Check.due("most", x.most(), 1200);
        });
        String spent = "sorts 3;person has 0 19 worth 0 19;person worth 2 3;person has 1 7 worth 0 12 worth 2 9;law 2;"
                + "tie 2 0 1;tie 2 2 0;tie 0 0 1;";
        Check.edge("18 MOST: 401 STATES: SPENT", () -> Check.due("most", Check.town(spent).most(), -2));
        Check.edge("18 MOST: 420 STATES: SPENT", () -> {
            TwoForOne x = Check.town("sorts 6;person has 0 20 has 1 20 has 3 19 has 4 19 worth 2 1 worth 5 1;tie 0 1 2;tie 3 4 5;");
            Check.due("most", x.most(), -2);
            Check.due("a tie", x.tie(0, 0), true);
            Check.due("400", x.most(), 3900);
        });
        Check.edge("18 SPENT: what is kept stays", () -> {
            TwoForOne x = Check.town(spent);
            Check.due("come", x.come(0, 1), 1);
            Check.due("most", x.most(), -2);
            step(x, 0, 0, 2, 10, 1);
        });
        Check.edge("18 SPENT, where nothing is kept: nothing is kept", () -> {
            TwoForOne x = Check.town(spent);
            x.most();
            Check.none("step", () -> x.step(0, 0));
        });
    }

    private static void freely(String sentence, int want, String text) {
        Check.edge("19 FREELY: " + sentence, () -> Check.due("freely", Check.town(text).freely(), want));
    }

    private static void freely() {
        freely("no PEOPLE", 0, "sorts 3;");
        freely("no things", 0, "person worth 0 99;");
        freely("worth nothing to any", 0, "person has 0 20;person has 0 20;");
        freely("to whom it is worth most: the first", 900, "person has 0 1 worth 0 9;person worth 0 8;");
        freely("to whom it is worth most: the last", 900, "person has 0 1 worth 0 8;person;person worth 0 9;");
        freely("as the first of his, each of them", 2000 * 9, "person has 0 20 worth 0 9 falls 100;");
        freely("as many as there are, of all", 4 * 900, "person has 0 1;person has 0 3;person worth 0 9;");
        freely("each SORT by itself", 900 + 2 * 700, "sorts 2;person has 0 1 worth 0 9 worth 1 1;person has 1 2 worth 1 7 worth 0 8;");
        freely("all PAIRS of all, though nothing is there", 1500, "sorts 3;person pair 0 1 9;person pair 1 2 4 pair 0 2 2;");
        freely("a PAIR that is told twice", 1800, "sorts 2;person pair 0 1 9 pair 1 0 9;");
        freely("the most there can be", 6 * 198000, "person has 0 20 worth 0 99;".repeat(6));
        Check.edge("19 FREELY: of what there is NOW", () -> {
            TwoForOne x = Check.town("sorts 2;law 2 burns;person has 0 2 worth 0 5;person has 1 1 worth 1 3;");
            Check.due("freely", x.freely(), 1300);
            Check.due("trade", x.trade(0, 1, 10, 1), true);
            Check.due("one is burnt", x.freely(), 800);
        });
        Check.edge("19 FREELY: without TIES", () -> Check.due("freely", Check.town("sorts 2;person has 0 20 worth 1 99;tie 0 0 1;").freely(), 0));
    }

    private static void wrongOnes() {
        int[][] wrong = {{2, 0}, {-1, 0}, {0, 3}, {0, -1}, {2, 3}, {-1, -1}, {6, 0}, {0, 8}};
        for (int[] k : wrong) {
            Check.edge("14 no such PERSON, SORT: " + k[0] + " " + k[1], () -> {
                TwoForOne x = Busy.fed();
                String before = Check.all(x);
                Check.none("come", () -> x.come(k[0], k[1]));
                Check.due("all", Check.all(x), before);
                Busy.imageIsThere(x);
            });
            Check.edge("16 no such PERSON, SORT: " + k[0] + " " + k[1], () -> {
                TwoForOne x = Busy.fed();
                String before = Check.all(x);
                Check.none("poor", () -> x.poor(k[0], k[1]));
                Check.due("all", Check.all(x), before);
                Busy.imageIsThere(x);
            });
        }
        for (int k : FAR) {
            Check.edge("14, 16 no such PERSON, SORT: " + k, () -> {
                TwoForOne x = Check.town("sorts 8;" + "person has 0 1;".repeat(6));
                Check.none("come", () -> x.come(k, 0));
                Check.none("come", () -> x.come(0, k));
                Check.none("poor", () -> x.poor(k, 0));
                Check.none("poor", () -> x.poor(0, k));
            });
        }
        Check.edge("14, 16 the last PERSON, the last SORT", () -> {
            TwoForOne x = Check.town("sorts 8;" + "person;".repeat(5) + "person has 7 1;");
            Check.due("come", x.come(5, 7), 0);
            Check.due("poor", x.poor(5, 7), 1);
        });
    }
}
