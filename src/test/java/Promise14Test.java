/** Promise 14: the least number of steps by which one has what he wishes for. */
public final class Promise14Test {
    public static void main(String[] args) {
        chain();
        asTheOtherOne();
        firstOfLikeOnes();
        whoMustBeBetter();
        ties();
        spent();
        keptStays();
        wrongOnes();
        Check.end();
    }

    static void step(TwoForOne x, int i, int a, int b, int given, int z) {
        int[] parts = {a, b, given, z};
        for (int what = 0; what < 4; what++) {
            Check.due("step " + i + " " + what, x.step(i, what), parts[what]);
        }
    }

    private static void chain() {
        TwoForOne x = Check.town("sorts 4;law 1;person has 0 1;person has 1 1 worth 0 5;person has 2 1 worth 1 5;");
        Check.due("he has it", x.come(0, 0), 0);
        Check.none("no step", () -> x.step(0, 0));
        Check.due("two steps", x.come(0, 2), 2);
        step(x, 0, 0, 1, 1, 1);
        step(x, 1, 0, 2, 2, 2);
        Check.none("no third step", () -> x.step(2, 0));
        Check.due("one step", x.come(0, 1), 1);
        step(x, 0, 0, 1, 1, 1);
        Check.none("no second step", () -> x.step(1, 0));
        Check.due("one step", x.come(1, 2), 1);
        step(x, 0, 1, 2, 2, 2);
        Check.due("there is none at all", x.come(0, 3), -1);
        Check.due("none gives it", x.come(2, 0), -1);
        Check.due("nothing changed", Check.bags(x), "1 0 0 0 / 0 1 0 0 / 0 0 1 0");
        Check.due("nothing is refused", x.count(10) + x.count(11), 0);
    }

    private static void asTheOtherOne() {
        TwoForOne x = Check.town("sorts 3;person has 0 1;person has 1 1 has 2 1 worth 0 9;");
        Check.due("two things for his one", x.come(0, 2), 1);
        step(x, 0, 1, 0, 21, 0);
    }

    private static void firstOfLikeOnes() {
        TwoForOne x = Check.town("sorts 4;law 1;person has 0 1 worth 3 9;person has 3 2;");
        Check.due("one step", x.come(1, 0), 1);
        step(x, 0, 0, 1, 1, 3);
        // of two ways of two steps the first as a row: by person 1, not by person 2
        TwoForOne y = Check.town("sorts 5;law 1;person has 0 1;person has 1 1 worth 0 5;person has 2 1 worth 0 5;"
                + "person has 3 1 worth 1 5 worth 2 5;");
        Check.due("two steps", y.come(0, 3), 2);
        step(y, 0, 0, 1, 1, 1);
        step(y, 1, 0, 3, 2, 3);
        // the least given, then the least z
        TwoForOne z = Check.town("sorts 4;law 2;person has 0 2 has 1 2 worth 2 1 worth 3 2;"
                + "person has 3 1 has 2 1 worth 1 1;");
        Check.due("one step", z.come(0, 3), 1);
        step(z, 0, 0, 1, 11, 3);
        Check.due("one step", z.come(1, 0), 1);
        step(z, 0, 0, 1, 10, 2);
        Check.due("one step", z.come(1, 1), 1);
        step(z, 0, 0, 1, 11, 2);
    }

    private static void whoMustBeBetter() {
        TwoForOne like = Check.town("sorts 2;law 1;person has 0 1;person has 1 1 worth 0 5 worth 1 5;");
        Check.due("as well as before is not better", like.come(0, 1), -1);
        TwoForOne loss = Check.town("sorts 2;law 1;person has 0 1 worth 0 99;person has 1 1 worth 0 5 worth 1 4;");
        Check.due("his own loss is no matter", loss.come(0, 1), 1);
        TwoForOne pair = Check.town("sorts 3;law 1;person has 0 1;person has 1 2 has 2 1 pair 0 2 1;");
        Check.due("for a pair", pair.come(0, 1), 1);
        Check.due("a pair needs both", pair.come(0, 2), -1);
        TwoForOne others = Check.town("sorts 3;law 1;person has 0 1;person has 1 1 worth 2 5;person has 2 1 worth 1 5;");
        Check.due("others among them don't count", others.come(0, 1), -1);
        TwoForOne spoon = Check.town("sorts 3;law 1 spoon 2;person has 0 1;person has 1 1 worth 0 5;");
        Check.due("no spoon", spoon.come(0, 1), -1);
    }

    private static void ties() {
        TwoForOne x = Check.town("sorts 5;law 1;person has 3 1;person has 0 2 has 1 1 worth 3 9 worth 4 9;"
                + "tie 0 0 4;tie 0 1 2;tie 1 0 2;");
        Check.due("none of his ties", x.come(0, 2), -1);
        Check.due("his tie", x.come(1, 2), 1);
        step(x, 0, 1, -1, 1, -1);
        Check.due("his tie", x.come(1, 4), 1);
        step(x, 0, 1, -1, 0, -1);
        TwoForOne y = Check.town("sorts 3;law 2;person has 0 1 has 1 1;person has 2 1 worth 1 2;tie 0 1 2;");
        Check.due("a trade is ahead of a tie", y.come(0, 2), 1);
        step(y, 0, 0, 1, 11, 2);
        TwoForOne z = Check.town("sorts 4;person has 0 4;tie 0 0 1;tie 1 1 3;");
        Check.due("ties of ties", z.come(0, 3), 3);
        step(z, 0, 0, -1, 0, -1);
        step(z, 1, 0, -1, 0, -1);
        step(z, 2, 0, -1, 1, -1);
        Check.due("NOW is as it was", Check.bags(z), "4 0 0 0");
    }

    private static void spent() {
        TwoForOne full = Check.town("sorts 8;person has 0 18 has 2 18 has 4 18;tie 0 0 1;tie 2 2 3;tie 4 4 5;");
        Check.due("1000 states, no way", full.come(0, 6), -1);
        TwoForOne more = Check.town("sorts 8;person has 0 12 has 1 12 has 3 20 has 5 12;tie 0 1 2;tie 3 3 4;tie 5 5 6;");
        Check.due("1001 states", more.come(0, 7), -2);
        TwoForOne thousand = Check.town("sorts 7;person has 0 1 has 1 9 has 5 11;"
                + "person has 3 19 has 5 3 worth 1 18 worth 2 6 worth 4 16;tie 5 4 3;tie 4 3 1;");
        Check.due("1000 states by trades", thousand.come(0, 2), -1);
        // his wish is the 1001st
        TwoForOne late = Check.town("sorts 8;person has 0 17 worth 2 14 worth 3 7 worth 5 11 worth 6 1;"
                + "person has 0 18 has 1 1 has 2 3 has 3 15 has 6 9 worth 0 15 worth 1 6 worth 3 4 worth 5 9;"
                + "person has 0 3 has 2 3 has 4 2 worth 1 4 worth 3 19 worth 5 20;"
                + "tie 0 3 5;tie 5 2 1;tie 7 6 0;tie 4 3 7;");
        Check.due("the answer is the 1001st state", late.come(0, 7), -2);
        Check.due("a nearer one", late.come(0, 4), 2);
    }

    private static void keptStays() {
        TwoForOne x = Check.town("sorts 8;person has 0 12 has 1 12 has 3 20 has 5 12;person;"
                + "tie 0 1 2;tie 3 3 4;tie 5 5 6;");
        Check.due("a way", x.come(0, 6), 1);
        Check.due("spent", x.come(0, 7), -2);
        step(x, 0, 0, -1, 2, -1);
        Check.due("no way", x.come(1, 7), -1);
        step(x, 0, 0, -1, 2, -1);
        Check.due("he has it", x.come(0, 0), 0);
        Check.none("the way has no step", () -> x.step(0, 0));
    }

    private static void wrongOnes() {
        TwoForOne x = Check.town("sorts 2;person has 0 1;");
        Check.none("no such person", () -> x.come(1, 0));
        Check.none("no such person", () -> x.come(-1, 0));
        Check.none("no such sort", () -> x.come(0, 2));
        Check.none("no such sort", () -> x.come(0, -1));
    }
}
