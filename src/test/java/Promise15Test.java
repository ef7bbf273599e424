/** Promise 15: the steps of the way that is kept. */
public final class Promise15Test {
    public static void main(String[] args) {
        TwoForOne x = Check.town("sorts 8;law 3;person;person has 5 1 has 6 1 has 7 2;"
                + "person has 4 1 worth 5 1;person;person;person has 0 2 has 1 1;tie 0 1 2;tie 0 0 3;tie 0 1 3;tie 2 0 3;");
        Check.none("no way is kept yet", () -> x.step(0, 0));
        Check.due("a way", x.come(1, 4), 1);
        Check.due("a", x.step(0, 0), 1);
        Check.due("b", x.step(0, 1), 2);
        Check.due("given", x.step(0, 2), 6 * 81 + 7 * 9 + 8);
        Check.due("z", x.step(0, 3), 4);
        Check.none("no such what", () -> x.step(0, 4));
        Check.none("no such what", () -> x.step(0, -1));
        Check.none("no such step", () -> x.step(1, 0));
        Check.none("no such step", () -> x.step(-1, 0));
        Check.none("no such step", () -> x.step(Integer.MAX_VALUE, 0));
        Check.due("a tie", x.come(5, 3), 1);
        Check.due("who ties", x.step(0, 0), 5);
        Check.due("no b", x.step(0, 1), -1);
        Check.due("the tie", x.step(0, 2), 1);
        Check.due("no z", x.step(0, 3), -1);
        Check.due("the tie is made, the way stays", x.tie(5, 0), true);
        Check.due("the tie", x.step(0, 2), 1);
        Check.due("a tie of a tie", x.come(5, 3), 1);
        Check.due("the last tie", x.step(0, 2), 3);
        Check.none("no such what of a tie", () -> x.step(0, 4));
        TwoForOne one = Check.town("sorts 8;law 1;person has 7 1;person has 0 1 worth 7 3;");
        Check.due("a way", one.come(0, 0), 1);
        Check.due("given", one.step(0, 2), 8);
        Check.due("z", one.step(0, 3), 0);
        Check.due("the other asks", one.come(1, 7), -1);
        Check.due("the way stays", one.step(0, 2), 8);
        Check.due("most", one.most(), 300);
        Check.due("the first of all", one.step(0, 0), 0);
        Check.due("given", one.step(0, 2), 8);
        Check.end();
    }
}
