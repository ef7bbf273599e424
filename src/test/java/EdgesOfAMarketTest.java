/** Part 5 and promises 31 to 33: a run by a seed, the image, what questions leave as it is; each boundary case by itself. */
public final class EdgesOfAMarketTest {
    private static final int[] FAR = {Integer.MIN_VALUE, Integer.MIN_VALUE + 1, -65536, -400, -2, 402, 800, 65536, Integer.MAX_VALUE - 1,
        Integer.MAX_VALUE};
    /** What is drawn by seed 1, as it is known of this way to draw. */
    private static final int[] KNOWN = {16838, 5758, 10113, 17515, 31051, 5627, 23010, 7419, 16212, 4086};

    private interface Question {
        void ask(TwoForOne x);
    }

    public static void main(String[] args) {
        draws();
        wraps();
        howMany();
        fewPeople();
        image();
        restore();
        questions();
        goesOn();
        Check.end();
    }

    /** Each has one thing of a sort of his own and would rather have any other: who has what tells who met whom. */
    private static String swaps(int people) {
        StringBuilder text = new StringBuilder("sorts ").append(people).append(";law 1;");
        for (int person = 0; person < people; person++) {
            text.append("person has ").append(person).append(" 1");
            for (int sort = 0; sort < people; sort++) {
                text.append(sort == person ? "" : " worth " + sort + " " + 1);
            }
            text.append(';');
        }
        return text.toString();
    }

    private static int other(int a, int drawn, int people) {
        int b = drawn % (people - 1);
        return b < a ? b : b + 1;
    }

    private static void draws() {
        for (int n = 2; n <= 6; n++) {
            int people = n;
            Check.edge("31 the first and the second DRAW, of as many as there are and of one fewer: " + n, () -> {
                TwoForOne x = Check.town(swaps(people));
                int a = KNOWN[0] % people;
                int b = other(a, KNOWN[1], people);
                Check.due("run", x.run(1, 1), 1);
                Check.due("a has what was b's", x.has(a, b), 1);
                Check.due("b has what was a's", x.has(b, a), 1);
                for (int person = 0; person < people; person++) {
                    Check.due("all others have theirs", x.has(person, person), person == a || person == b ? 0 : 1);
                }
            });
            Check.edge("31 five MEETINGS by ten DRAWS: " + n, () -> {
                TwoForOne x = Check.town(swaps(people));
                TwoForOne y = Check.town(swaps(people));
                int made = 0;
                for (int k = 0; k < 5; k++) {
                    int a = KNOWN[2 * k] % people;
                    made += y.meet(a, other(a, KNOWN[2 * k + 1], people)) > 0 ? 1 : 0;
                }
                Check.due("run", x.run(5, 1), made);
                Check.due("bags", Check.bags(x), Check.bags(y));
            });
        }
        Check.edge("31 from that of the first on one more: each b but a is drawn", () -> {
            boolean[] met = new boolean[36];
            for (int seed = 0; seed < 400; seed++) {
                TwoForOne x = Check.town(swaps(6));
                x.run(1, seed);
                for (int cell = 0; cell < 36; cell++) {
                    met[cell] |= x.has(cell / 6, cell % 6) == 1 && cell / 6 != cell % 6;
                }
            }
            for (int cell = 0; cell < 36; cell++) {
                Check.due("met " + cell, met[cell], cell / 6 != cell % 6);
            }
        });
    }

    private static void wraps() {
        int[] seeds = {0, 1, -1, 2, -2, 12345, -12345, 65535, 65536, 1103515245, -1103515245, 0x7fff0000, 0x80000000, 0x80000001,
            Integer.MAX_VALUE, Integer.MAX_VALUE - 1, Integer.MIN_VALUE + 65536};
        for (int seed : seeds) {
            for (int n = 2; n <= 6; n++) {
                int people = n;
                Check.edge("31 an int that wraps, bits 16 to 30: seed " + seed + " of " + n, () -> {
                    TwoForOne x = Check.town(swaps(people));
                    TwoForOne y = Check.town(swaps(people));
                    long s = seed & 0xffffffffL;
                    int made = 0;
                    for (int k = 0; k < 20; k++) {
                        s = (s * 1103515245L + 12345) % 4294967296L;
                        int a = (int) (s / 65536 % 32768 % people);
                        s = (s * 1103515245L + 12345) % 4294967296L;
                        made += y.meet(a, other(a, (int) (s / 65536 % 32768), people)) > 0 ? 1 : 0;
                    }
                    Check.due("run", x.run(20, seed), made);
                    Check.due("bags", Check.bags(x), Check.bags(y));
                });
            }
        }
    }

    private static void howMany() {
        Check.edge("31 MEETINGS (0 to 400): 0, nothing", () -> {
            TwoForOne x = Check.town(swaps(3));
            Check.due("run", x.run(0, 1), 0);
            Check.due("bags", Check.bags(x), "1 0 0 / 0 1 0 / 0 0 1");
        });
        Check.edge("31 MEETINGS (0 to 400): 1", () -> Check.due("run", Check.town(swaps(3)).run(1, 1), 1));
        String many = "sorts 8;law 1;person" + ALL_20 + " worth 6 9 worth 7 9;person" + ALL_20 + " worth 0 9 worth 1 9;";
        Check.edge("31 MEETINGS (0 to 400): 400 in one run as one by one", () -> {
            TwoForOne x = Check.town(many);
            int made = x.run(400, 77);
            TwoForOne y = Check.town(many);
            int met = 0;
            for (int k = 0; k < 400; k++) {
                met += y.meet(0, 1) > 0 ? 1 : 0;
            }
            Check.due("made", made, met);
            Check.due("bags", Check.bags(x), Check.bags(y));
        });
        for (int k : new int[] {399, 400}) {
            Check.edge("31 each of the MEETINGS is made: " + k, () -> {
                // six sorts of twenty each, worth 1 to the other alone: so many as are there are traded, one a meeting
                String wide = "sorts 8;law 1;" + "person has 0 20 has 1 20 has 2 20 has 3 20 has 4 20 worth 5 9 worth 6 9 worth 7 9;"
                        + "person has 5 20 has 6 20 has 7 20 worth 0 1 worth 1 1 worth 2 1 worth 3 1 worth 4 1;";
                Check.due("run", Check.town(wide).run(k, 5), 60);
                Check.due("run of 60", Check.town(wide).run(60, 5), 60);
                Check.due("run of 59", Check.town(wide).run(59, 5), 59);
            });
        }
        Check.edge("31 the last one of 400 is made", () -> {
            String text = swaps(6);
            long s = 9;
            for (int k = 0; k < 798; k++) {
                s = (s * 1103515245L + 12345) % 4294967296L;
            }
            int before = (int) s;
            TwoForOne x = Check.town(text);
            int made = x.run(400, 9);
            TwoForOne y = Check.town(text);
            made -= y.run(399, 9);
            made -= y.run(1, before);
            Check.due("made", made, 0);
            Check.due("bags", Check.bags(x), Check.bags(y));
        });
        Check.edge("31 how many: 401", () -> Check.bad("run", () -> Check.town(swaps(3)).run(401, 1)));
        Check.edge("31 how many: -1", () -> Check.bad("run", () -> Check.town(swaps(3)).run(-1, 1)));
        for (int k : FAR) {
            Check.edge("31 how many: " + k, () -> {
                TwoForOne x = Busy.fed();
                String before = Check.all(x);
                Check.bad("run", () -> x.run(k, 1));
                Check.due("all", Check.all(x), before);
                Busy.imageIsThere(x);
            });
        }
        Check.edge("31 TRADES are told, not MEETINGS", () -> Check.due("run", Check.town("person has 0 5;person has 0 5;").run(400, 3), 0));
    }

    private static final String ALL_20 = " has 0 20 has 1 20 has 2 20 has 3 20 has 4 20 has 5 20 has 6 20 has 7 20";

    private static void fewPeople() {
        for (int n = 0; n <= 2; n++) {
            int people = n;
            for (int meetings : new int[] {0, 1, 400}) {
                Check.edge("31 fewer than two PEOPLE: " + n + ", MEETINGS " + meetings, () -> {
                    TwoForOne x = Check.town("person;".repeat(people));
                    if (people < 2) {
                        Check.bad("run", () -> x.run(meetings, 1));
                    } else {
                        Check.due("run", x.run(meetings, 1), 0);
                    }
                });
            }
        }
        Check.edge("31 a new object", () -> Check.bad("run", () -> new TwoForOne().run(0, 0)));
    }

    private static void image() {
        Check.edge("32 an image of who has what NOW", () -> {
            TwoForOne x = Check.town(swaps(2));
            x.meet(0, 1);
            x.image();
            x.trade(0, 1, 2, 0);
            Check.due("behind it", Check.bags(x), "1 0 / 0 1");
            x.restore();
            Check.due("the image", Check.bags(x), "0 1 / 1 0");
        });
        Check.edge("32 in place of another one", () -> {
            TwoForOne x = Check.town("sorts 2;law 1;person has 0 3;person has 1 3;");
            x.image();
            x.trade(0, 1, 1, 1);
            x.image();
            x.trade(0, 1, 1, 1);
            x.restore();
            Check.due("the second one", Check.bags(x), "2 1 / 1 2");
            x.restore();
            Check.due("the second one still", Check.bags(x), "2 1 / 1 2");
        });
        Check.edge("32 nothing else changes", () -> {
            TwoForOne x = Busy.fed();
            String before = Check.all(x);
            x.image();
            Check.due("all", Check.all(x), before);
        });
        Check.edge("32 of no PEOPLE", () -> {
            TwoForOne x = new TwoForOne();
            x.image();
            Check.due("restore", x.restore(), true);
            Check.due("people", x.count(0), 0);
        });
        Check.edge("32 what is done behind it does not change it", () -> {
            TwoForOne x = Check.town("sorts 3;law 1;person has 0 9 has 2 1 worth 1 5;person has 1 9 worth 0 5;tie 0 0 2;meet 0 1;");
            x.image();
            x.days(2);
            x.run(2, 2);
            x.tie(0, 0);
            x.trade(0, 1, 1, 1);
            x.restore();
            Check.due("bags", Check.bags(x), "9 0 1 / 0 9 0");
        });
    }

    private static void restore() {
        Check.edge("33 false: there is none", () -> Check.due("restore", new TwoForOne().restore(), false));
        Check.edge("33 false: nothing changes", () -> {
            TwoForOne x = Check.town(Busy.TEXT);
            x.trade(0, 1, 10, 1);
            String before = Check.all(x);
            Check.due("restore", x.restore(), false);
            Check.due("all", Check.all(x), before);
        });
        Check.edge("33 true, as often as one asks", () -> {
            TwoForOne x = Busy.town();
            for (int k = 0; k < 3; k++) {
                Busy.imageIsThere(x);
                x.days(1);
            }
        });
        Check.edge("33 it is as the image: who has what, all else stays", () -> {
            TwoForOne x = Busy.fed();
            String kept = Check.kept(x);
            Busy.imageIsThere(x);
            Check.due("kept", Check.kept(x), kept);
            int[] counts = {2, 3, 2, -1, 0, 1, 1, 20, 6, 1, 1, 1};
            for (int what = 0; what < 12; what++) {
                Check.due("count " + what, x.count(what), counts[what]);
            }
            Check.due("fault", x.fault(), 7);
        });
        Check.edge("33 things that were burnt, that were tied are back", () -> {
            TwoForOne x = Check.town("sorts 3;law 3 burns;person has 0 5;person has 1 1;tie 0 0 2;");
            x.image();
            x.tie(0, 0);
            x.trade(0, 1, 91, 1);
            Check.due("things", x.count(8), 3);
            x.restore();
            Check.due("things", x.count(8), 6);
            Check.due("bags", Check.bags(x), "5 0 0 / 0 1 0");
        });
        Check.edge("33 behind a FAULT the image is there", () -> {
            TwoForOne x = Busy.town();
            Check.tell(x, "foo");
            Busy.imageIsThere(x);
        });
        Check.edge("33 behind a TOWN there is none", () -> {
            TwoForOne x = Busy.town();
            Check.tell(x, Busy.TEXT);
            Check.due("restore", x.restore(), false);
        });
        Check.edge("33 behind a refused town() the image is there", () -> {
            TwoForOne x = Busy.town();
            Check.bad("town", () -> x.town(1));
            Busy.imageIsThere(x);
        });
    }

    private static void asked(String sentence, String text, Question question) {
        Check.edge("what is asked begins from NOW, and changes nothing: " + sentence, () -> {
            TwoForOne x = Check.town(text);
            x.image();
            x.trade(0, 1, 10, 1);
            x.trade(0, 1, 10, 2);
            String before = withoutKept(Check.all(x));
            question.ask(x);
            Check.due("all", withoutKept(Check.all(x)), before);
            Check.due("restore", x.restore(), true);
            Check.due("the image", Check.bags(x), Check.bags(Check.town(text)));
        });
    }

    private static String withoutKept(String all) {
        return all.substring(0, all.indexOf(" way"));
    }

    private static void questions() {
        String text = "sorts 4;person has 0 6 has 3 1 worth 1 10 worth 2 9 falls 10;person has 1 3 worth 0 4 pair 0 3 5;"
                + "person has 2 2 worth 0 3 worth 1 8;tie 0 1 2;meet 0 1;meet 1 2;meet 2 0;";
        asked("come", text, x -> Check.due("come", x.come(1, 2) > 0, true));
        asked("come, none", text, x -> x.come(2, 3));
        asked("poor", text, x -> Check.due("poor", x.poor(0, 2) > 0, true));
        asked("most", "sorts 3;person has 0 4 worth 1 10;person has 1 2 worth 0 4 pair 0 2 5;tie 0 1 2;", x -> Check.due("most", x.most() > 0, true));
        asked("most, spent", text, x -> Check.due("most", x.most(), -2));
        asked("freely", text, x -> Check.due("freely", x.freely() > 0, true));
        asked("look", text, x -> Check.due("look", x.look(0, 1, 10, 1, 1), 900));
        for (int k = 0; k < 6; k++) {
            int what = k;
            asked("end " + k, text, x -> x.end(what));
            asked("law " + k, text, x -> x.law(what, 1));
        }
        asked("order", text, x -> Check.due("order", x.order() > 0, true));
        asked("ahead", "sorts 3;person has 0 4 worth 1 10;person has 1 2 worth 0 4 pair 0 2 5;meet 0 1;meet 1 0;", x -> Check.due("ahead", x.ahead(1) > 0, true));
        asked("still", text, x -> Check.due("still", x.still(0, 2, 1) > 0, true));
        asked("share", "sorts 3;person has 0 4 worth 1 10;person has 1 2 worth 0 4 pair 0 2 5;meet 0 1;", x -> Check.due("share", x.share(0) > 0, true));
        asked("best", text, x -> x.best());
    }

    private static void goesOn() {
        Check.edge("a MARKET goes on: each call from what the ones ahead of it left", () -> {
            TwoForOne x = Check.town("sorts 3;law 1;person has 0 4 worth 1 5;person has 1 4 worth 0 5;tie 0 0 2;meet 0 1;");
            Check.due("trade", x.trade(0, 1, 1, 1), true);
            Check.due("tie", x.tie(0, 0), true);
            Check.due("meet", x.meet(0, 1), 1000);
            Check.due("bags", Check.bags(x), "0 2 1 / 2 2 0");
            Check.due("days", x.days(3), 0);
            Check.due("run", x.run(9, 9), 0);
            Check.due("a tie of his", x.tie(1, 0), true);
            Check.due("bags", Check.bags(x), "0 2 1 / 0 2 1");
        });
        Check.edge("questions are of NOW", () -> {
            TwoForOne x = Check.town("sorts 2;law 1;person has 0 2 worth 1 5;person has 1 2 worth 0 5;meet 0 1;");
            Check.due("end", x.end(0), 2);
            Check.due("come", x.come(0, 1), 1);
            x.days(1);
            Check.due("end", x.end(0), 1);
            Check.due("come", x.come(0, 1), 0);
            Check.due("ahead", x.ahead(0), 1000);
            x.days(1);
            Check.due("end", x.end(0), 0);
            Check.due("poor", x.poor(0, 0), -1);
            Check.due("order", x.order(), 2000);
            Check.due("still", x.still(0, 1, 1), 1000);
            Check.due("law", x.law(0, 1), 2000);
        });
    }
}
