/** Promise 10: pass, and the order within an hour. */
public final class PassTest {
    public static void main(String[] args) {
        Due due = new Due("PassTest");
        hours(due);
        order(due);
        due.end();
    }

    private static void hours(Due due) {
        Cablecourt x = new Cablecourt();
        due.argument("pass(0)", () -> x.pass(0));
        due.argument("pass(-1)", () -> x.pass(-1));
        due.argument("pass(25)", () -> x.pass(25));
        due.argument("pass(most)", () -> x.pass(Integer.MAX_VALUE));
        x.demand(0, 0, 1, 1);
        due.is("pass(24)", x.pass(24), 24);
        due.is("pass(1)", x.pass(1), 25);
        for (int i = 2; i <= 20; i++) {
            due.is("pass(24)", x.pass(24), 24 * i + 1);
        }
        due.state("pass(20)", () -> x.pass(20));
        due.argument("argument before state", () -> x.pass(25));
        due.is("pass(19)", x.pass(19), 500);
        due.is("an hour each", x.account(0), 2500);
        due.state("pass(1)", () -> x.pass(1));
        due.is("nothing changed", x.account(0), 2500);
        due.is("other calls go on", x.cable(0, 1, 1, 0), 0);
    }

    private static void order(Due due) {
        Cablecourt x = new Cablecourt();
        x.cable(0, 1, 1, 3);
        x.demand(0, 0, 1, 1);
        x.ship(0, 10, 1);
        x.cut(0, 0);
        x.send(0, 0);
        x.pass(5);
        due.is("mended only after the demands were led", x.way(0), Cablecourt.NONE);
        due.is("the credit of the fifth hour too", x.account(0), 25);
        due.is("paid by the owner, with the ship", x.account(3), -125);
        due.is("owes nothing", x.owes(0, 3), 0);
        x.pass(1);
        due.is("led in the next hour", x.way(0), 1);
        due.is("owes from then on", x.owes(0, 3), 200);
        due.is("no credit more", x.account(0), 25);
    }
}
