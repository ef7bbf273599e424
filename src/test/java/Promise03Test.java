/** Promise 3: a text is a town, or has a fault; all is anew, or all else stays. */
public final class Promise03Test {
    private static final String WHOLE = "sorts 3;person has 0 2 worth 1 10;person has 1 1 worth 0 4 pair 0 2 5;meet 0 1;";

    public static void main(String[] args) {
        goodOnes();
        tokensOutOfPlace();
        endsTooSoon();
        tooMuch();
        notThere();
        oneTwice();
        toldAlready();
        theFirstAndTheLeast();
        allAnew();
        nothingIsLeft();
        allElseStays();
        notSoMany();
        Check.end();
    }

    private static void goodOnes() {
        TwoForOne x = Check.town("");
        Check.due("sorts of nothing", x.count(1), 1);
        Check.due("one sort told", Check.town("sorts 1;").count(1), 1);
        Check.due("two sorts told", Check.town("sorts 2;").count(1), 2);
        x = Check.town("  \n \n");
        Check.due("people of blanks", x.count(0), 0);
        x = Check.town("\n sorts\n8 ;person;person has7 20has0 0worth7 99worth0 0falls100pair7 0 99pair0 7 0pair0 7 99\n;");
        Check.due("sorts", x.count(1), 8);
        Check.due("has the most", x.has(1, 7), 20);
        Check.due("likes the most", x.likes(1, 7), 99);
        Check.due("worth: falls at once", x.worth(1), 9900);
        x = Check.town("sorts 0008;law 0003 spoon 0007;person has 0000 0009;");
        Check.due("gives", x.count(2), 3);
        Check.due("spoon", x.count(3), 7);
        Check.due("burns", x.count(4), 0);
        Check.due("has", x.has(0, 0), 9);
        x = Check.town("law 1 burns;person;");
        Check.due("gives", x.count(2), 1);
        Check.due("spoon", x.count(3), -1);
        Check.due("burns", x.count(4), 1);
        x = Check.town("sorts 2;law 2 spoon 1 burns;");
        Check.due("spoon and burns", x.count(3) + x.count(4), 2);
        x = Check.town("sorts 2;" + "tie 0 0 1;".repeat(4) + "person;".repeat(6) + "meet 0 5;meet 5 0;".repeat(4));
        Check.due("ties", x.count(5), 4);
        Check.due("people", x.count(0), 6);
        Check.due("meetings", x.count(6), 8);
        x = Check.town("sorts 2;person" + " pair 0 1 7".repeat(6) + " has 0 1 has 1 1;");
        Check.due("six pairs", x.worth(0), 4200);
        x = Check.town("person has 0 1;person has 0 1 falls 5;person falls 5;");
        Check.due("each has his own", x.left(0), 2);
    }

    private static void tokensOutOfPlace() {
        Check.fault("foo;", 1, 0);
        Check.fault(";", 1, 0);
        Check.fault("12;", 1, 0);
        Check.fault("has 0 1;", 1, 0);
        Check.fault("persons;", 1, 0);
        Check.fault("perso;", 1, 0);
        Check.fault("personhas 0 1;", 1, 0);
        Check.fault("personz;", 1, 0);
        Check.fault("persona;", 1, 0);
        Check.fault("aperson;", 1, 0);
        Check.fault("qerson;", 1, 0);
        Check.fault("law 2 spoom 0;", 1, 6);
        Check.fault("Person;", 1, 0);
        Check.fault(" person\t;", 1, 7);
        Check.fault("person;\u00e9", 1, 7);
        Check.fault("person,", 1, 6);
        Check.fault("person`;", 1, 6);
        Check.fault("person{;", 1, 6);
        Check.fault("person has /;", 1, 11);
        Check.fault("person has :;", 1, 11);
        Check.fault("person;;", 1, 7);
        Check.fault("person 0;", 1, 7);
        Check.fault("person person;", 1, 7);
        Check.fault("person has has 1;", 1, 11);
        Check.fault("person has 0 worth;", 1, 13);
        Check.fault("person has 0 1 2;", 1, 15);
        Check.fault("person has 0 1 burns;", 1, 15);
        Check.fault("person falls;", 1, 12);
        Check.fault("sorts 2;person pair;", 1, 19);
        Check.fault("sorts 2;person pair 0;", 1, 21);
        Check.fault("sorts 2;person pair 0 1;", 1, 23);
        Check.fault("sorts;", 1, 5);
        Check.fault("sorts 3 4;", 1, 8);
        Check.fault("law;", 1, 3);
        Check.fault("law spoon 0;", 1, 4);
        Check.fault("law 2 2;", 1, 6);
        Check.fault("law 2 spoon;", 1, 11);
        Check.fault("law 2 spoon 0 spoon 0;", 1, 14);
        Check.fault("law 2 burns burns;", 1, 12);
        Check.fault("law 2 burns spoon 0;", 1, 12);
        Check.fault("law 2 spoon 0 0;", 1, 14);
        Check.fault("sorts 2;tie;", 1, 11);
        Check.fault("sorts 2;tie 0;", 1, 13);
        Check.fault("sorts 2;tie 0 0;", 1, 15);
        Check.fault("sorts 2;tie 0 0 1 1;", 1, 18);
        Check.fault("person;person;meet;", 1, 18);
        Check.fault("person;person;meet 0;", 1, 20);
        Check.fault("person;person;meet 0 1 0;", 1, 23);
        Check.fault("12345;", 1, 0);
        Check.fault("person 12345;", 1, 7);
    }

    private static void endsTooSoon() {
        Check.fault("person", 1, 6);
        Check.fault("person  ", 1, 8);
        Check.fault("person has", 1, 10);
        Check.fault("person has \n", 1, 12);
        Check.fault("person has 0", 1, 12);
        Check.fault("person has 0 1", 1, 14);
        Check.fault("person;sorts", 5, 7);
        Check.fault("sorts", 1, 5);
        Check.fault("sorts 2", 1, 7);
        Check.fault("law 2", 1, 5);
        Check.fault("law 2 spoon", 1, 11);
        Check.fault("law 2 spoon 0", 1, 13);
        Check.fault("law 2 burns", 1, 11);
        Check.fault("sorts 2;tie 0 0 1", 1, 17);
        Check.fault("person;person;meet 0 1", 1, 22);
    }

    private static void tooMuch() {
        Check.fault("sorts 0;", 2, 6);
        Check.fault("sorts 9;", 2, 6);
        Check.fault("sorts 00008;", 2, 6);
        Check.fault("sorts 12345678901;", 2, 6);
        Check.fault("person has 0 21;", 2, 13);
        Check.fault("person has 0 00001;", 2, 13);
        Check.fault("person has 00000 1;", 2, 11);
        Check.fault("person worth 0 100;", 2, 15);
        Check.fault("person worth 0 9999;", 2, 15);
        Check.fault("sorts 2;person pair 0 1 100;", 2, 24);
        Check.fault("sorts 2;person pair 0 00001 1;", 2, 22);
        Check.fault("person falls 101;", 2, 13);
        Check.fault("law 0;", 2, 4);
        Check.fault("law 4;", 2, 4);
        Check.fault("law 2 spoon 00000;", 2, 12);
        Check.fault("person;".repeat(7), 2, 42);
        Check.fault("person;".repeat(6) + "person foo", 2, 42);
        Check.fault("sorts 2;" + "tie 0 0 1;".repeat(5), 2, 48);
        Check.fault("person;person;" + "meet 0 1;".repeat(9), 2, 86);
        Check.fault("sorts 2;person" + " pair 0 1 5".repeat(7) + ";", 2, 81);
        Check.fault("person;person;meet 00000 1;", 2, 19);
        Check.fault("person;person;meet 0 00001;", 2, 21);
        Check.fault("sorts 2;tie 0 0 00001;", 2, 16);
    }

    private static void notThere() {
        Check.fault("person has 1 2;", 3, 11);
        Check.fault("person has 9999 2;", 3, 11);
        Check.fault("sorts 8;person has 8 2;", 3, 19);
        Check.fault("sorts 2;person worth 2 1;", 3, 21);
        Check.fault("sorts 2;person pair 2 0 1;", 3, 20);
        Check.fault("sorts 2;person pair 0 2 1;", 3, 22);
        Check.fault("law 2 spoon 1;", 3, 12);
        Check.fault("sorts 2;tie 2 0 1;", 3, 12);
        Check.fault("sorts 2;tie 0 2 1;", 3, 14);
        Check.fault("sorts 2;tie 0 0 2;", 3, 16);
        Check.fault("meet 0 1;", 3, 5);
        Check.fault("person;meet 1 0;", 3, 12);
        Check.fault("person;meet 0 1;person;", 3, 14);
    }

    private static void oneTwice() {
        Check.fault("sorts 2;person pair 0 0 1;", 4, 22);
        Check.fault("sorts 2;person pair 1 1 1;", 4, 22);
        Check.fault("person;meet 0 0;", 4, 14);
        Check.fault("person;person;meet 1 1;", 4, 21);
        Check.fault("sorts 2;tie 0 1 0;", 4, 16);
        Check.fault("sorts 2;tie 0 1 1;", 4, 16);
        Check.fault("sorts 2;tie 1 1 1;", 4, 16);
    }

    private static void toldAlready() {
        Check.fault("person has 0 1 has 0 1;", 5, 19);
        Check.fault("person worth 0 1 worth 0 1;", 5, 23);
        Check.fault("person has 0 0 worth 0 0 has 0 0;", 5, 29);
        Check.fault("sorts 3;person has 2 1 has 1 1 has 2 1;", 5, 35);
        Check.fault("person falls 5 falls 6;", 5, 15);
        Check.fault("person falls 0 falls 0;", 5, 15);
        Check.fault("law 1;law 2;", 5, 6);
        Check.fault("law 2;person;law 2;", 5, 13);
        Check.fault("person;sorts 2;", 5, 7);
        Check.fault("sorts 2;sorts 2;", 5, 8);
    }

    private static void theFirstAndTheLeast() {
        Check.fault("person has 1 21;foo;", 3, 11);
        Check.fault("person falls 101 falls;", 2, 13);
        Check.fault("person has 0 1 has 00000 1;", 2, 19);
        Check.fault("person has 0 1 has foo;", 1, 19);
        Check.fault("person has 0 1 has 1;", 3, 19);
        Check.fault("law 2 spoon 5;law 3;", 3, 12);
        Check.fault("person;meet 00000 foo;", 2, 12);
    }

    private static void allAnew() {
        TwoForOne x = Check.town(WHOLE);
        x.come(0, 1);
        x.poor(0, 1);
        x.order();
        x.share(0);
        x.image();
        x.trade(0, 1, 10, 1);
        Check.due("a trade refused", x.trade(0, 1, 10, 1), false);
        Check.due("another town", Check.tell(x, "sorts 2;person has 1 3 worth 1 2;"), 0);
        Check.due("people", x.count(0), 1);
        Check.due("meetings", x.count(6), 0);
        Check.due("gives", x.count(2), 2);
        Check.due("has 0", x.has(0, 0), 0);
        Check.due("has 1", x.has(0, 1), 3);
        Check.due("likes", x.likes(0, 1), 2);
        Check.due("worth of all", x.worth(-1), 600);
        Check.due("freely", x.freely(), 600);
        Check.due("status stays", x.count(10), 1);
        Check.none("step", () -> x.step(0, 0));
        Check.none("bag", () -> x.bag(0));
        Check.none("ordered", () -> x.ordered(0));
        Check.none("shared", () -> x.shared(0, 0));
        Check.due("restore", x.restore(), false);
        Check.due("nothing told", Check.tell(x, ""), 0);
        Check.due("sorts", x.count(1), 1);
        Check.due("people", x.count(0), 0);
        Check.due("the law again", Check.tell(x, "sorts 2;law 3 spoon 1 burns;tie 0 0 1;"), 0);
        Check.due("and without", Check.tell(x, "person falls 7 worth 0 5;"), 0);
        Check.due("gives", x.count(2), 2);
        Check.due("spoon", x.count(3), -1);
        Check.due("burns", x.count(4), 0);
        Check.due("ties", x.count(5), 0);
        Check.due("and again", Check.tell(x, "person has 0 3;person has 0 3 worth 0 5;"), 0);
        Check.due("nothing is worth anything to him", x.worth(0), 0);
        Check.due("nothing falls", x.worth(1), 1500);
    }

    /** Nothing of a town, or of a text with a fault, is left in those behind it. */
    private static void nothingIsLeft() {
        String rich = "sorts 8;law 3 spoon 1 burns;" + "person has 0 3 has 7 4 worth 0 5 worth 7 6 pair 0 7 8 falls 30;".repeat(6)
                + "tie 0 1 2;tie 0 0 7;meet 0 1;meet 5 4;";
        for (int k = 0; k < 6; k++) {
            TwoForOne x = new TwoForOne();
            boolean wrong = k % 3 == 2;
            Check.due("rich", Check.tell(x, wrong ? rich + "foo" : rich), wrong ? 1 : 0);
            for (int i = 0; i <= k % 2; i++) {
                Check.due("plain", Check.tell(x, "sorts 8;" + "person;".repeat(6)), 0);
                int[] counts = {6, 8, 2, -1, 0, 0, 0, 0, 0};
                for (int what = 0; what < counts.length; what++) {
                    Check.due("count " + what, x.count(what), counts[what]);
                }
                for (int person = 0; person < 6; person++) {
                    Check.due("bag " + person, Check.bag(x, person), "0 0 0 0 0 0 0 0");
                    Check.due("likes", x.likes(person, 0) + x.likes(person, 7), 0);
                }
                Check.due("freely", x.freely(), 0);
                Check.due("by two", x.look(0, 1, 10, 7, 0), 0);
                Check.none("by one", () -> x.look(0, 1, 1, 7, 0));
            }
            Check.due("nothing falls", Check.tell(x, "sorts 8;" + "person has 0 3 worth 0 1;".repeat(6)), 0);
            Check.due("worth", x.worth(-1), 1800);
        }
    }

    private static void allElseStays() {
        TwoForOne x = Check.town(WHOLE);
        x.come(0, 1);
        x.poor(0, 1);
        x.order();
        x.share(0);
        x.image();
        x.trade(0, 1, 10, 1);
        Check.due("a fault", Check.tell(x, "sorts 2;law 3;person has 0 1;person;foo"), 1);
        Check.due("refused texts", x.count(9), 1);
        Check.due("the tape is empty", x.count(7), 0);
        Check.due("sorts", x.count(1), 3);
        Check.due("gives", x.count(2), 2);
        Check.due("who has what", Check.bags(x), "0 1 0 / 2 0 0");
        Check.due("likes", x.likes(0, 1), 10);
        Check.due("step", x.step(0, 2), 10);
        Check.due("bag", x.bag(0), 2);
        Check.due("ordered", x.ordered(0), 0);
        Check.due("shared", x.shared(1, 1), 1);
        Check.due("restore", x.restore(), true);
        Check.due("as before", Check.bags(x), "2 0 0 / 0 1 0");
        Check.due("the look", x.look(0, 1, 10, 1, 3), 1800);
        Check.due("another fault", Check.tell(x, "law 4;"), 2);
        Check.due("refused texts", x.count(9), 2);
    }

    private static void notSoMany() {
        TwoForOne x = Check.town("person has 0 1;");
        Check.due("a fault", Check.tell(x, "foo"), 1);
        Check.bad("the tape is empty", () -> x.town(1));
        Check.due("no bytes at all", x.town(0), 0);
        Check.due("people", x.count(0), 0);
        Check.feed(x, "person;foo          ");
        Check.bad("one more than there are", () -> x.town(21));
        Check.bad("below 0", () -> x.town(-1));
        Check.bad("far below 0", () -> x.town(Integer.MIN_VALUE));
        Check.bad("far more", () -> x.town(Integer.MAX_VALUE));
        Check.due("the tape stays", x.count(7), 20);
        Check.due("people stay", x.count(0), 0);
        Check.due("status stays", x.count(9), 1);
        Check.due("the first bytes alone", x.town(7), 0);
        Check.due("people", x.count(0), 1);
        Check.due("the rest is gone", x.count(7), 0);
    }
}
