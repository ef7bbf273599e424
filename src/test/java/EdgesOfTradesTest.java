/** Part 2 and promises 11 to 13: which TRADES and TIES are LAWFUL, what becomes of them; each boundary case by itself. */
public final class EdgesOfTradesTest {
    private static final int[] FAR = {Integer.MIN_VALUE, Integer.MIN_VALUE + 1, -65536, -257, -256, -2, -1, 256, 257, 65536, 65537,
        Integer.MAX_VALUE - 1, Integer.MAX_VALUE};

    static int number(int... sorts) {
        int sum = 0;
        for (int sort : sorts) {
            sum = sum * 9 + sort + 1;
        }
        return sum;
    }

    private static void lawful(String sentence, String text, int given, int z, String bags) {
        Check.edge("11 LAWFUL: " + sentence, () -> Check.due("look", Check.town(text).look(0, 1, given, z, 0), 1));
        Check.edge("12 LAWFUL, so it is made: " + sentence, () -> {
            TwoForOne x = Check.town(text);
            Check.due("trade", x.trade(0, 1, given, z), true);
            Check.due("bags", Check.bags(x), bags);
            Check.due("refused", x.count(10), 0);
        });
    }

    private static void unlawful(String sentence, String text, int given, int z) {
        Check.edge("11 not LAWFUL: " + sentence, () -> {
            TwoForOne x = Check.town(text);
            String before = Check.all(x);
            Check.due("look", x.look(0, 1, given, z, 0), 0);
            Check.bad("gain of a", () -> x.look(0, 1, given, z, 1));
            Check.bad("gain of b", () -> x.look(0, 1, given, z, 2));
            Check.bad("gain of both", () -> x.look(0, 1, given, z, 3));
            Check.due("all", Check.all(x), before);
        });
        Check.edge("12 not LAWFUL, so it is refused: " + sentence, () -> {
            TwoForOne x = Check.town(text);
            String before = Check.bags(x);
            Check.due("trade", x.trade(0, 1, given, z), false);
            Check.due("bags", Check.bags(x), before);
            Check.due("refused", x.count(10), 1);
            Check.due("again", x.trade(0, 1, given, z), false);
            Check.due("refused", x.count(10), 2);
            Check.due("other refused ones", x.count(9) + x.count(11), 0);
        });
    }

    public static void main(String[] args) {
        having();
        gettingZ();
        spoon();
        burning();
        gains();
        numbers();
        wrongOnes();
        refusedAlone();
        ties();
        Check.end();
    }

    private static void having() {
        lawful("a has the one", "sorts 2;law 1;person has 0 1;person has 1 1;", number(0), 1, "0 1 / 1 0");
        unlawful("a has not the one", "sorts 2;law 1;person;person has 1 1 has 0 5;", number(0), 1);
        lawful("a has just two alike", "sorts 2;person has 0 2;person has 1 1;", number(0, 0), 1, "0 1 / 2 0");
        unlawful("a has one of two alike", "sorts 2;person has 0 1;person has 1 1;", number(0, 0), 1);
        lawful("a has just two unlike", "sorts 3;person has 0 1 has 1 1;person has 2 1;", number(0, 1), 2, "0 0 1 / 1 1 0");
        unlawful("the first of two unlike is missing", "sorts 3;person has 1 2;person has 2 1;", number(0, 1), 2);
        unlawful("the second of two unlike is missing", "sorts 3;person has 0 2;person has 2 1;", number(0, 1), 2);
        lawful("a has just three alike", "sorts 2;law 3;person has 0 3;person has 1 1;", number(0, 0, 0), 1, "0 1 / 3 0");
        unlawful("a has two of three alike", "sorts 2;law 3;person has 0 2;person has 1 1;", number(0, 0, 0), 1);
        lawful("a has just two and one", "sorts 3;law 3;person has 0 2 has 1 1;person has 2 1;", number(0, 0, 1), 2, "0 0 1 / 2 1 0");
        unlawful("a has one of the first two", "sorts 3;law 3;person has 0 1 has 1 9;person has 2 1;", number(0, 0, 1), 2);
        unlawful("the third is missing", "sorts 3;law 3;person has 0 9;person has 2 1;", number(0, 0, 1), 2);
        lawful("a has just one and two", "sorts 3;law 3;person has 0 1 has 1 2;person has 2 1;", number(0, 1, 1), 2, "0 0 1 / 1 2 0");
        unlawful("a has one of the last two", "sorts 3;law 3;person has 0 9 has 1 1;person has 2 1;", number(0, 1, 1), 2);
        unlawful("the first is missing", "sorts 3;law 3;person has 1 9;person has 2 1;", number(0, 1, 1), 2);
        lawful("a has just three unlike", "sorts 4;law 3;person has 0 1 has 1 1 has 2 1;person has 3 1;", number(0, 1, 2), 3, "0 0 0 1 / 1 1 1 0");
        unlawful("the first of three is missing", "sorts 4;law 3;person has 1 1 has 2 1;person has 3 1;", number(0, 1, 2), 3);
        unlawful("the second of three is missing", "sorts 4;law 3;person has 0 1 has 2 1;person has 3 1;", number(0, 1, 2), 3);
        unlawful("the last of three is missing", "sorts 4;law 3;person has 0 1 has 1 1;person has 3 1;", number(0, 1, 2), 3);
        unlawful("what b has is not a's", "sorts 2;person has 0 1;person has 0 9 has 1 1;", number(0, 0), 1);
    }

    private static void gettingZ() {
        lawful("b has just one z", "sorts 2;person has 0 2;person has 1 1;", number(0, 0), 1, "0 1 / 2 0");
        unlawful("b has no z", "sorts 2;person has 0 2;person;", number(0, 0), 1);
        unlawful("b has no z, but a has", "sorts 2;person has 0 2 has 1 3;person;", number(0, 0), 1);
        lawful("b has many", "sorts 2;person has 0 2;person has 1 20;", number(0, 0), 1, "0 1 / 2 19");
        unlawful("z is the one that is given", "sorts 2;law 1;person has 0 2;person has 0 2;", number(0), 0);
        unlawful("z is the first of those", "sorts 3;person has 0 2 has 1 2;person has 0 2 has 1 2;", number(0, 1), 0);
        unlawful("z is the second of those", "sorts 3;person has 0 2 has 1 2;person has 0 2 has 1 2;", number(0, 1), 1);
        unlawful("z is the third of those", "sorts 4;law 3;person has 0 2 has 1 2 has 3 1;person has 3 2;", number(0, 1, 3), 3);
        unlawful("z is the middle one of those", "sorts 4;law 3;person has 0 2 has 1 2 has 3 1;person has 1 2;", number(0, 1, 3), 1);
        lawful("it betters none", "sorts 2;person has 0 2 worth 0 9;person has 1 1 worth 1 9;", number(0, 0), 1, "0 1 / 2 0");
        lawful("a has z already", "sorts 2;person has 0 2 has 1 3;person has 1 1;", number(0, 0), 1, "0 4 / 2 0");
        lawful("b has more than 20 then", "sorts 2;law 3;person has 0 3;person has 0 20 has 1 1;", number(0, 0, 0), 1, "0 1 / 23 0");
        lawful("a has more than 20 then", "sorts 2;law 1;person has 0 1 has 1 20;person has 1 1;", number(0), 1, "0 21 / 1 0");
    }

    private static void spoon() {
        unlawful("there is a SPOON, and it isn't among them", "sorts 3;law 1 spoon 1;person has 0 1;person has 2 1;", number(0), 2);
        lawful("the SPOON is the one", "sorts 3;law 1 spoon 1;person has 1 1;person has 2 1;", number(1), 2, "0 0 1 / 0 1 0");
        unlawful("the SPOON isn't among two", "sorts 4;law 2 spoon 1;person has 0 1 has 2 1 has 1 5;person has 3 1;", number(0, 2), 3);
        lawful("the SPOON is the first of two", "sorts 4;law 2 spoon 0;person has 0 1 has 1 1;person has 3 1;", number(0, 1), 3, "0 0 0 1 / 1 1 0 0");
        lawful("the SPOON is the second of two", "sorts 4;law 2 spoon 1;person has 0 1 has 1 1;person has 3 1;", number(0, 1), 3, "0 0 0 1 / 1 1 0 0");
        lawful("the SPOON is both", "sorts 4;law 2 spoon 0;person has 0 2;person has 3 1;", number(0, 0), 3, "0 0 0 1 / 2 0 0 0");
        lawful("the SPOON is the second of three", "sorts 4;law 3 spoon 1;person has 0 1 has 1 1 has 2 1;person has 3 1;", number(0, 1, 2), 3, "0 0 0 1 / 1 1 1 0");
        lawful("the SPOON is the third of three", "sorts 4;law 3 spoon 2;person has 0 1 has 1 1 has 2 1;person has 3 1;", number(0, 1, 2), 3, "0 0 0 1 / 1 1 1 0");
        unlawful("the SPOON isn't among three", "sorts 5;law 3 spoon 4;person has 0 1 has 1 1 has 2 1 has 4 1;person has 3 1;", number(0, 1, 2), 3);
        unlawful("the SPOON is z alone", "sorts 2;law 1 spoon 1;person has 0 1;person has 1 1;", number(0), 1);
        unlawful("the SPOON is given, and z too", "sorts 2;law 1 spoon 1;person has 1 1;person has 1 1;", number(1), 1);
    }

    private static void burning() {
        lawful("it BURNS: the one is kept", "sorts 2;law 1 burns;person has 0 1;person has 1 1;", number(0), 1, "0 1 / 1 0");
        lawful("it BURNS: of two alike one is gone", "sorts 2;law 2 burns;person has 0 2;person has 1 1;", number(0, 0), 1, "0 1 / 1 0");
        lawful("it BURNS: the first of two is kept", "sorts 3;law 2 burns;person has 0 1 has 1 1;person has 2 1;", number(0, 1), 2, "0 0 1 / 1 0 0");
        lawful("it BURNS: the first of three is kept", "sorts 4;law 3 burns;person has 0 1 has 1 1 has 2 1;person has 3 1;", number(0, 1, 2), 3, "0 0 0 1 / 1 0 0 0");
        lawful("it BURNS: the first that isn't a SPOON, the SPOON first", "sorts 3;law 2 spoon 0 burns;person has 0 1 has 1 1;person has 2 1;",
                number(0, 1), 2, "0 0 1 / 0 1 0");
        lawful("it BURNS: the first that isn't a SPOON, the SPOON second", "sorts 3;law 2 spoon 1 burns;person has 0 1 has 1 1;person has 2 1;",
                number(0, 1), 2, "0 0 1 / 1 0 0");
        lawful("it BURNS: two SPOONS, then the third", "sorts 4;law 3 spoon 0 burns;person has 0 2 has 1 1;person has 3 1;", number(0, 0, 1), 3, "0 0 0 1 / 0 1 0 0");
        lawful("it BURNS: a SPOON, then the second of three", "sorts 4;law 3 spoon 0 burns;person has 0 1 has 1 1 has 2 1;person has 3 1;",
                number(0, 1, 2), 3, "0 0 0 1 / 0 1 0 0");
        lawful("it BURNS: the first of all, if all are SPOONS", "sorts 2;law 3 spoon 0 burns;person has 0 3;person has 1 1;", number(0, 0, 0), 1, "0 1 / 1 0");
        lawful("it BURNS: the one SPOON", "sorts 2;law 1 spoon 0 burns;person has 0 1;person has 1 1;", number(0), 1, "0 1 / 1 0");
        lawful("it does not burn: b has the SPOON, too", "sorts 3;law 2 spoon 0;person has 0 1 has 1 1;person has 2 1;", number(0, 1), 2, "0 0 1 / 1 1 0");
        lawful("it does not burn: b has all three", "sorts 4;law 3;person has 0 1 has 1 1 has 2 1;person has 3 1;", number(0, 1, 2), 3, "0 0 0 1 / 1 1 1 0");
    }

    private static void gain(String sentence, String text, int a, int b, int both) {
        Check.edge("11 GAIN: " + sentence, () -> {
            TwoForOne x = Check.town(text);
            Check.due("lawful", x.look(0, 1, 1, 1, 0), 1);
            Check.due("of a", x.look(0, 1, 1, 1, 1), a);
            Check.due("of b", x.look(0, 1, 1, 1, 2), b);
            Check.due("of both", x.look(0, 1, 1, 1, 3), both);
            Check.due("nothing changes", Check.bags(x), Check.bags(Check.town(text)));
        });
    }

    private static void gains() {
        String rest = "person has 1 2 has 0 1 worth 0 %d worth 1 %d falls %d;";
        String text = "sorts 2;law 1;person has 0 2 has 1 1 worth 0 %d worth 1 %d falls %d;" + rest;
        gain("both are better", text.formatted(1, 2, 0, 2, 1, 0), 100, 100, 200);
        gain("both are better by the least", text.formatted(0, 1, 99, 1, 0, 99), 1, 1, 2);
        gain("a is as well as before: not WANTED", text.formatted(1, 1, 0, 2, 1, 0), 0, 100, 0);
        gain("b is as well as before: not WANTED", text.formatted(1, 2, 0, 1, 1, 0), 100, 0, 0);
        gain("a has less", text.formatted(2, 1, 0, 9, 0, 0), -100, 900, 0);
        gain("b has less", text.formatted(0, 9, 0, 1, 2, 0), 900, -100, 0);
        gain("both have less", text.formatted(9, 1, 0, 1, 9, 0), -800, -800, 0);
        gain("both are as well", text.formatted(0, 0, 0, 0, 0, 0), 0, 0, 0);
        gain("a is worse by the least", text.formatted(1, 0, 99, 1, 0, 0), -1, 100, 0);
        gain("b is worse by the least", text.formatted(0, 1, 0, 0, 1, 99), 100, -1, 0);
        gain("a pair is won, a pair is lost", "sorts 3;law 1;person has 0 1 has 2 1 pair 1 2 9;person has 1 1 has 2 1 pair 1 2 5;", 900, -500, 0);
        gain("a pair is lost, a pair is won", "sorts 3;law 1;person has 0 1 has 2 1 pair 0 2 9;person has 1 1 has 2 1 pair 0 2 5;", -900, 500, 0);
        gain("a pair for a pair", "sorts 3;law 1;person has 0 2 has 2 1 pair 1 2 9;person has 1 2 has 2 1 pair 0 2 5;", 900, 500, 1400);
    }

    private static void numbers() {
        int[] figures = {1, 2, 8};
        for (int figure : figures) {
            Check.edge("11 a NUMBER of 1 SORT: " + figure, () -> Check.due("look", one().look(0, 1, figure, 3, 0), 0));
        }
        for (int wrong : new int[] {0, 9, 10, 11, 17, 18, 72, 81, 82}) {
            Check.edge("11 no NUMBER of 1 SORT: " + wrong, () -> Check.none("look", () -> one().look(0, 1, wrong, 3, 0)));
            Check.edge("12 no NUMBER of 1 SORT: " + wrong, () -> Check.none("trade", () -> one().trade(0, 1, wrong, 3) ? 1 : 0));
        }
        Check.edge("11 all NUMBERS of 1 SORT there are, no other one", () -> allNumbers(1));
        Check.edge("11 all NUMBERS of 2 SORTS there are, no other one", () -> allNumbers(2));
        Check.edge("11 all NUMBERS of 3 SORTS there are, no other one", () -> allNumbers(3));
        for (int wrong : new int[] {0, 1, 8, 9, 18, 19, 28, 80 + 1, 80 + 10, 90, 91, 92, 100}) {
            Check.edge("11 no NUMBER of 2 SORTS in order: " + wrong,
                    () -> Check.none("look", () -> Check.town("sorts 8;person has 0 9;person has 7 1;").look(0, 1, wrong, 7, 0)));
        }
        for (int wrong : new int[] {10, 81, 82, 90, 91 + 9, 99, 172, 728 + 1, 729 + 91, 90 + 81 * 9}) {
            Check.edge("11 no NUMBER of 3 SORTS in order: " + wrong,
                    () -> Check.none("look", () -> Check.town("sorts 8;law 3;person has 0 9;person has 7 1;").look(0, 1, wrong, 7, 0)));
        }
        Check.edge("11 a NUMBER of 3 SORTS: the first and the last", () -> {
            TwoForOne x = Check.town("sorts 8;law 3;person has 0 3 has 7 3;person has 1 1;");
            Check.due("0 0 0", x.look(0, 1, 91, 1, 0), 1);
            Check.due("7 7 7", x.look(0, 1, 728, 1, 0), 1);
            Check.due("0 0 7", x.look(0, 1, 98, 1, 0), 1);
            Check.due("0 7 7", x.look(0, 1, 1 * 81 + 8 * 9 + 8, 1, 0), 1);
        });
        Check.edge("11 a NUMBER tells the SORTS, each at its figure", () -> {
            TwoForOne x = Check.town("sorts 8;law 3;person has 2 1 has 4 1 has 6 1;person has 0 1;");
            Check.due("trade", x.trade(0, 1, 3 * 81 + 5 * 9 + 7, 0), true);
            Check.due("bags", Check.bags(x), "1 0 0 0 0 0 0 0 / 0 0 1 0 1 0 1 0");
        });
    }

    private static TwoForOne one() {
        return Check.town("sorts 8;law 1;person has 0 1;person has 2 1;");
    }

    /** Of all numbers up to 900 just those are numbers that are g sorts in order, of five sorts. */
    private static void allNumbers(int g) {
        for (int from = 0; from < 900; from += 300) {
            TwoForOne x = Check.town("sorts 5;law " + g + ";person;person;");
            for (int k = from; k < from + 300; k++) {
                int given = k;
                boolean good = isNumber(k, g, 5);
                Check.due("number " + k, Check.outcome(() -> x.look(0, 1, given, 0, 0)), good ? "0" : "NoSuchElementException");
            }
        }
    }

    private static boolean isNumber(int number, int g, int sorts) {
        int rest = number;
        int last = sorts;
        for (int i = 0; i < g; i++) {
            int figure = rest % 9;
            if (figure < 1 || figure > last) {
                return false;
            }
            last = figure;
            rest /= 9;
        }
        return rest == 0;
    }

    private static void wrongOnes() {
        // a, b, given, z of a town of two people, three sorts
        int[][] wrong = {{2, 1, 10, 1}, {-1, 1, 10, 1}, {0, 2, 10, 1}, {0, -1, 10, 1}, {0, 0, 10, 1}, {1, 1, 10, 1}, {2, 2, 10, 1},
            {-1, -1, 10, 1}, {0, 1, 10, 3}, {0, 1, 10, -1}, {0, 1, 10, 8}, {0, 1, 0, 1}, {0, 1, -10, 1}, {0, 1, 1, 1}, {0, 1, 9, 1},
            {0, 1, 19, 1}, {0, 1, 13, 1}, {0, 1, 31, 1}, {0, 1, 40, 1}, {0, 1, 91, 1}, {0, 1, 739, 1}, {0, 1, 10 + 6561, 1}};
        for (int[] k : wrong) {
            String call = k[0] + " " + k[1] + " " + k[2] + " " + k[3];
            Check.edge("11 no such TRADE: " + call, () -> {
                TwoForOne x = Busy.town();
                String before = Check.all(x);
                for (int what = 0; what < 4; what++) {
                    int asked = what;
                    Check.none("look", () -> x.look(k[0], k[1], k[2], k[3], asked));
                }
                Check.due("all", Check.all(x), before);
                Busy.imageIsThere(x);
            });
            Check.edge("12 no such TRADE: " + call, () -> {
                TwoForOne x = Busy.town();
                String before = Check.all(x);
                Check.none("trade", () -> x.trade(k[0], k[1], k[2], k[3]) ? 1 : 0);
                Check.due("all", Check.all(x), before);
                Busy.imageIsThere(x);
            });
        }
        for (int k : FAR) {
            Check.edge("11, 12 no such TRADE: " + k, () -> {
                TwoForOne x = Check.town("sorts 3;person has 0 4;person has 1 1;");
                Check.none("look", () -> x.look(k, 1, 10, 1, 0));
                Check.none("look", () -> x.look(0, k, 10, 1, 0));
                Check.none("look", () -> x.look(0, 1, k, 1, 0));
                Check.none("look", () -> x.look(0, 1, 10, k, 0));
                Check.none("look", () -> x.look(0, 1, 10, 1, k));
                Check.none("trade", () -> x.trade(k, 1, 10, 1) ? 1 : 0);
                Check.none("trade", () -> x.trade(0, k, 10, 1) ? 1 : 0);
                Check.none("trade", () -> x.trade(0, 1, k, 1) ? 1 : 0);
                Check.none("trade", () -> x.trade(0, 1, 10, k) ? 1 : 0);
                Check.due("refused", x.count(10), 0);
            });
        }
        for (int k : new int[] {-1, 4, 5}) {
            Check.edge("11 no such what: " + k, () -> Check.none("look", () -> Busy.town().look(0, 1, 10, 1, k)));
            Check.edge("11 no such what, ahead of that it isn't LAWFUL: " + k, () -> Check.none("look", () -> Busy.town().look(0, 1, 30, 1, k)));
        }
        Check.edge("11 the last what", () -> Check.due("look", Check.town(Busy.TEXT).look(0, 1, 10, 1, 3), 1800));
        Check.edge("11 NoSuchElementException is ahead of that it isn't LAWFUL", () -> {
            TwoForOne x = Check.town("sorts 3;person;person;");
            Check.none("no number", () -> x.look(0, 1, 9, 1, 1));
            Check.none("no z", () -> x.look(0, 1, 10, 3, 1));
            Check.none("no b", () -> x.look(0, 2, 10, 1, 1));
            Check.none("both are one", () -> x.look(0, 0, 10, 1, 3));
            Check.bad("not lawful", () -> x.look(0, 1, 10, 1, 1));
        });
        Check.edge("11 of what 0 it isn't thrown that it isn't LAWFUL", () -> Check.due("look", Check.town("sorts 3;person;person;").look(0, 1, 10, 1, 0), 0));
        Check.edge("11 of one PERSON, of none", () -> {
            Check.none("one", () -> Check.town("sorts 2;person has 0 2 has 1 1;").look(0, 1, 10, 1, 0));
            Check.none("one", () -> Check.town("sorts 2;person has 0 2 has 1 1;").look(0, 0, 10, 1, 0));
            Check.none("none", () -> Check.town("sorts 2;").look(0, 1, 10, 1, 0));
        });
        Check.edge("11, 12 the first and the last of six, either way", () -> {
            TwoForOne x = Check.town("sorts 2;law 1;person has 0 1;" + "person;".repeat(4) + "person has 1 1;");
            Check.due("look", x.look(5, 0, 2, 0, 0), 1);
            Check.due("trade", x.trade(0, 5, 1, 1), true);
            Check.due("trade", x.trade(5, 0, 1, 1), true);
            Check.due("bags", Check.bags(x), "1 0 / 0 0 / 0 0 / 0 0 / 0 0 / 0 1");
        });
    }

    private static void refusedAlone() {
        Check.edge("12 a refused TRADE changes STATUS 1 alone", () -> {
            TwoForOne x = Busy.fed();
            String before = Check.all(x);
            Check.due("trade", x.trade(0, 1, 30, 1), false);
            Check.due("all", Check.all(x), before.replace("20 5 1 1 1", "20 5 1 2 1"));
            Busy.imageIsThere(x);
        });
        Check.edge("12 a made TRADE changes who has what alone", () -> {
            TwoForOne x = Busy.fed();
            String kept = Check.kept(x);
            Check.due("trade", x.trade(0, 1, 11, 2), true);
            Check.due("bags", Check.bags(x), "1 0 1 / 2 1 0");
            Check.due("kept", Check.kept(x), kept);
            Check.due("status", x.count(9) + x.count(10) + x.count(11), 3);
            Check.due("tape", x.count(7), 20);
            Check.due("fault", x.fault(), 7);
            Busy.imageIsThere(x);
        });
        Check.edge("13 a refused TIE changes STATUS 2 alone", () -> {
            TwoForOne x = Busy.fed();
            String before = Check.all(x);
            Check.due("tie", x.tie(1, 0), false);
            Check.due("all", Check.all(x), before.replace("20 5 1 1 1", "20 5 1 1 2"));
            Busy.imageIsThere(x);
        });
        Check.edge("13 a made TIE changes who has what alone", () -> {
            TwoForOne x = Busy.fed();
            String kept = Check.kept(x);
            Check.due("tie", x.tie(0, 0), true);
            Check.due("bags", Check.bags(x), "1 0 1 / 1 0 1");
            Check.due("kept", Check.kept(x), kept);
            Check.due("status", x.count(9) + x.count(10) + x.count(11), 3);
            Check.due("tape", x.count(7), 20);
            Busy.imageIsThere(x);
        });
    }

    private static void tie(String sentence, String text, boolean want, String bags) {
        Check.edge("13 a TIE: " + sentence, () -> {
            TwoForOne x = Check.town(text);
            Check.due("tie", x.tie(0, 0), want);
            Check.due("bags", Check.bags(x), bags);
            Check.due("refused", x.count(11), want ? 0 : 1);
            Check.due("other refused ones", x.count(9) + x.count(10), 0);
        });
    }

    private static void ties() {
        tie("one of both", "sorts 3;person has 0 1 has 1 1;tie 0 1 2;", true, "0 0 1");
        tie("of many", "sorts 3;person has 0 20 has 1 20 has 2 20;tie 0 1 2;", true, "19 19 21");
        tie("the first is missing", "sorts 3;person has 1 9;tie 0 1 2;", false, "0 9 0");
        tie("the second is missing", "sorts 3;person has 0 9;tie 0 1 2;", false, "9 0 0");
        tie("both are missing", "sorts 3;person has 2 9;tie 0 1 2;", false, "0 0 9");
        tie("two of one SORT", "sorts 2;person has 0 2;tie 0 0 1;", true, "0 1");
        tie("three of one SORT", "sorts 2;person has 0 3;tie 0 0 1;", true, "1 1");
        tie("one of one SORT, twice", "sorts 2;person has 0 1;tie 0 0 1;", false, "1 0");
        tie("none of one SORT, twice", "sorts 2;person has 1 1;tie 0 0 1;", false, "0 1");
        tie("what another one has is not his", "sorts 3;person has 0 1;person has 1 1;tie 0 1 2;", false, "1 0 0 / 0 1 0");
        tie("no law is for it", "sorts 3;law 3 spoon 2 burns;person has 0 1 has 1 1;tie 0 1 2;", true, "0 0 1");
        tie("the SORTS in any order", "sorts 3;person has 2 1 has 1 1;tie 2 1 0;", true, "1 0 0");
        Check.edge("13 a TIE: the first and the last of four, by the first and the last of six", () -> {
            TwoForOne x = Check.town("sorts 5;" + "person has 0 4;".repeat(6) + "tie 0 0 1;tie 0 0 2;tie 0 0 3;tie 0 0 4;");
            Check.due("tie", x.tie(0, 0), true);
            Check.due("tie", x.tie(5, 3), true);
            Check.due("first", Check.bag(x, 0), "2 1 0 0 0");
            Check.due("last", Check.bag(x, 5), "2 0 0 0 1");
            Check.due("another one", Check.bag(x, 1), "4 0 0 0 0");
        });
        int[][] wrong = {{2, 0}, {-1, 0}, {0, 1}, {0, -1}, {6, 0}, {0, 4}, {2, 1}, {-1, -1}};
        for (int[] k : wrong) {
            Check.edge("13 no such PERSON, TIE: " + k[0] + " " + k[1], () -> {
                TwoForOne x = Busy.town();
                String before = Check.all(x);
                Check.none("tie", () -> x.tie(k[0], k[1]) ? 1 : 0);
                Check.due("all", Check.all(x), before);
                Busy.imageIsThere(x);
            });
        }
        for (int k : FAR) {
            Check.edge("13 no such PERSON, TIE: " + k, () -> {
                TwoForOne x = Check.town("sorts 2;person has 0 2;tie 0 0 1;");
                Check.none("tie", () -> x.tie(k, 0) ? 1 : 0);
                Check.none("tie", () -> x.tie(0, k) ? 1 : 0);
                Check.due("refused", x.count(11), 0);
            });
        }
        Check.edge("13 no TIE of a town of none", () -> Check.none("tie", () -> Check.town("sorts 2;person has 0 2;").tie(0, 0) ? 1 : 0));
    }
}
