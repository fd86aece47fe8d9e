/** Promises 15, 16 and 22: owes, owesAnew, seal. */
public final class LoansTest {
    public static void main(String[] args) {
        Due due = new Due("LoansTest");
        grow(due);
        anew(due);
        anewHourByHour(due);
        seals(due);
        wrongArguments(due);
        due.end();
    }

    private static void grow(Due due) {
        Cablecourt x = new Cablecourt();
        x.cable(0, 3, 2, 1);
        x.cable(3, 0, 2, 0);
        x.demand(0, 0, 3, 4);
        x.demand(1, 0, 3, 2);
        x.demand(0, 3, 0, 3);
        due.is("owes before an hour", x.owes(0, 1), 0);
        x.pass(1);
        due.is("the second demand is led over its own", x.way(1), 1);
        due.is("the first one can't be led", x.way(0), Cablecourt.NONE);
        x.cable(0, 3, 8, 1);
        x.pass(2);
        due.is("owes 4 + 3 strands each hour", x.owes(0, 1), 2 * 7 * 600);
        due.is("and is owed nothing", x.owes(1, 0), 0);
        x.sell(2, 1, 0, 8, 1);
        x.demand(1, 0, 3, 2);
        x.pass(1);
        due.is("nothing is set off", x.owes(0, 1), 2 * 7 * 600);
        due.is("the other one owes now", x.owes(1, 0), 2 * 600);
        due.is("loans are in no account", x.account(0), 20 + 15 - 1);
        due.is("not in the other one either", x.account(1), 1);
    }

    private static void anew(Due due) {
        Cablecourt x = new Cablecourt();
        x.pass(2);
        x.demand(4, 5, 1, 2);
        x.pass(1);
        x.cable(1, 5, 3, 2);
        x.cable(5, 1, 6, 0);
        x.pass(2);
        agree(due, x);
        x.sell(0, 2, 3, 2, 10);
        x.sell(1, 0, 4, 1, 10);
        x.sell(1, 4, 5, 1, 10);
        x.pass(3);
        agree(due, x);
        x.cut(0, 5);
        x.ship(1, 200, 3);
        x.send(0, 0);
        x.pass(6);
        agree(due, x);
        due.is("mended", x.isWhole(0), true);
        x.cut(0, 5);
        x.cut(1, 5);
        x.send(0, 1);
        agree(due, x);
        x.pass(5);
        agree(due, x);
        x.pass(4);
        x.demand(3, 1, 5, 1);
        agree(due, x);
        x.pass(24);
        agree(due, x);
    }

    private static void anewHourByHour(Due due) {
        Cablecourt x = new Cablecourt();
        x.cable(0, 1, 4, 1);
        x.demand(0, 0, 1, 2);
        due.is("before an hour", x.owesAnew(0, 1), 0);
        x.pass(1);
        due.is("the hour 0", x.owesAnew(0, 1), 400);
        x.sell(0, 1, 2, 3, 0);
        due.is("a sale is so from the next hour on", x.owesAnew(0, 1), 400);
        x.pass(1);
        due.is("one strand of 1", x.owesAnew(0, 1), 600);
        due.is("one strand of 2", x.owesAnew(0, 2), 200);
        x.demand(3, 1, 0, 2);
        x.pass(2);
        due.is("two strands of 2 for the new demand", x.owesAnew(3, 2), 800);
        due.is("as before", x.owesAnew(0, 2), 600);
        x.cut(0, 0);
        x.ship(0, 10, 1);
        x.send(0, 0);
        x.pass(5);
        due.is("nothing while it is cut", x.owesAnew(3, 2), 800);
        x.cable(0, 1, 1, 3);
        x.cut(0, 0);
        x.pass(2);
        due.is("mended and cut again before an hour", x.owesAnew(3, 2), 800);
        due.is("the new cable is too small", x.owesAnew(0, 3), 0);
        x.sell(1, 3, 4, 1, 0);
        x.demand(5, 0, 1, 1);
        x.pass(3);
        due.is("the new owner", x.owesAnew(5, 4), 600);
        agree(due, x);
    }

    private static void agree(Due due, Cablecourt x) {
        int seal = x.seal();
        for (int member = 0; member < 6; member++) {
            for (int other = 0; other < 6; other++) {
                due.is("owesAnew(" + member + ", " + other + ")", x.owesAnew(member, other), x.owes(member, other));
            }
        }
        due.is("a question changes nothing", x.seal(), seal);
    }

    private static void seals(Due due) {
        Cablecourt x = new Cablecourt();
        x.cable(0, 5, 8, 0);
        x.demand(5, 0, 5, 4);
        due.is("at first", x.seal(), 0);
        x.pass(1);
        int want = 4000 * 31;
        for (int i = 0; i < 4; i++) {
            want = (want << 3) ^ (want >>> 29);
        }
        due.is("5 owes 0, four pairs after it", x.seal(), want);
        for (int i = 0; i < 20; i++) {
            x.pass(24);
        }
        want = 4000 * 31 * 481;
        for (int i = 0; i < 4; i++) {
            want = (want << 3) ^ (want >>> 29);
        }
        due.is("with overflow", x.seal(), want);
        Cablecourt y = new Cablecourt();
        y.cable(0, 1, 1, 1);
        y.cable(2, 3, 2, 0);
        y.demand(0, 0, 1, 1);
        y.demand(1, 2, 3, 2);
        y.pass(1);
        int seal = 200 * 31;
        for (int i = 0; i < 5; i++) {
            seal = (seal << 3) ^ (seal >>> 29);
        }
        seal += 400 * 31;
        for (int i = 0; i < 24; i++) {
            seal = (seal << 3) ^ (seal >>> 29);
        }
        due.is("the one that owes first", y.seal(), seal);
    }

    private static void wrongArguments(Due due) {
        Cablecourt x = new Cablecourt();
        x.pass(1);
        due.index("owes(6, 0)", () -> x.owes(6, 0));
        due.index("owes(0, 6)", () -> x.owes(0, 6));
        due.index("owes(-1, 0)", () -> x.owes(-1, 0));
        due.index("owes(0, -1)", () -> x.owes(0, -1));
        due.index("owesAnew(6, 0)", () -> x.owesAnew(6, 0));
        due.index("owesAnew(0, 6)", () -> x.owesAnew(0, 6));
        due.index("owesAnew(-1, 0)", () -> x.owesAnew(-1, 0));
        due.index("owesAnew(0, -1)", () -> x.owesAnew(0, -1));
        due.is("owes(3, 3)", x.owes(3, 3), 0);
        due.is("owesAnew(3, 3)", x.owesAnew(3, 3), 0);
    }
}
