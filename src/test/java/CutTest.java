/** Promises 5, 12 and 17: cut, isWhole, and the credits that the owners of a cut cable pay. */
public final class CutTest {
    public static void main(String[] args) {
        Due due = new Due("CutTest");
        places(due);
        sixteen(due);
        clubPays(due);
        earliestCutPays(due);
        sharesRoundDown(due);
        lowestOwnerOfOneStrand(due);
        cutAgain(due);
        due.end();
    }

    private static void places(Due due) {
        Cablecourt x = new Cablecourt();
        x.cable(3, 1, 1, 0);
        x.cable(0, 1, 1, 0);
        due.index("cable 2", () -> x.cut(2, 0));
        due.index("cable -1", () -> x.cut(-1, 0));
        due.index("index before argument", () -> x.cut(2, -1));
        due.argument("place -1", () -> x.cut(0, -1));
        due.argument("place 401", () -> x.cut(0, 401));
        due.argument("place 201", () -> x.cut(1, 201));
        due.is("still whole", x.isWhole(0), true);
        due.is("cut(0, 400)", x.cut(0, 400), 0);
        due.is("cut(1, 0)", x.cut(1, 0), 1);
        due.is("isWhole(0)", x.isWhole(0), false);
        due.state("cut twice", () -> x.cut(0, 0));
        due.argument("argument before state", () -> x.cut(0, 401));
        due.is("worked(1)", x.worked(1), 0);
        due.index("worked(2)", () -> x.worked(2));
        due.index("worked(-1)", () -> x.worked(-1));
    }

    private static void sixteen(Due due) {
        Cablecourt x = new Cablecourt();
        x.cable(0, 1, 1, 0);
        x.cable(0, 1, 1, 0);
        x.ship(0, 200, 10);
        x.ship(0, 200, 10);
        for (int k = 0; k < 16; k++) {
            due.is("cut " + k, x.cut(0, 0), k);
            x.send(k / 8, k);
            x.pass(5);
            due.is("mended", x.worked(k), 5);
            due.is("whole again", x.isWhole(0), true);
        }
        due.state("the seventeenth", () -> x.cut(1, 0));
        due.argument("argument before state", () -> x.cut(1, 201));
        due.is("still whole", x.isWhole(1), true);
    }

    private static void clubPays(Due due) {
        Cablecourt x = new Cablecourt();
        x.demand(2, 0, 1, 3);
        x.demand(4, 0, 1, 1);
        x.pass(2);
        due.is("account(2)", x.account(2), 30);
        due.is("account(4)", x.account(4), 10);
        due.is("account(NONE)", x.account(Cablecourt.NONE), -40);
        x.cable(4, 5, 1, 3);
        x.cut(0, 0);
        x.pass(1);
        due.is("the owners pay, wherever the cut is", x.account(3), -20);
        due.is("the club does not", x.account(Cablecourt.NONE), -40);
    }

    private static void earliestCutPays(Due due) {
        Cablecourt x = new Cablecourt();
        for (int c = 0; c < 4; c++) {
            x.cable(4, 5, 1, c);
        }
        x.demand(5, 0, 1, 1);
        x.ship(4, 200, 1);
        x.cut(3, 0);
        x.pass(1);
        due.is("the only one", x.account(3), -5);
        x.cut(0, 0);
        x.pass(1);
        due.is("the earlier one", x.account(3), -10);
        due.is("not the later one", x.account(0), 0);
        x.pass(1);
        x.cut(2, 0);
        x.cut(1, 0);
        x.send(0, 1);
        x.pass(5);
        due.is("the earliest one still", x.account(3), -40);
        due.is("pays for the ship", x.account(0), -100);
        due.is("mended", x.isWhole(0), true);
        x.cut(0, 0);
        x.pass(1);
        due.is("and again", x.account(3), -45);
        Cablecourt y = new Cablecourt();
        for (int c = 0; c < 4; c++) {
            y.cable(4, 5, 1, c);
        }
        y.demand(5, 0, 1, 1);
        y.cut(2, 0);
        y.cut(1, 0);
        y.cut(3, 0);
        y.pass(1);
        due.is("of one hour the lowest number", y.account(1), -5);
        due.is("not the first one told", y.account(2), 0);
        Cablecourt z = new Cablecourt();
        for (int c = 0; c < 4; c++) {
            z.cable(4, 5, 1, c);
        }
        z.pass(3);
        z.demand(5, 0, 1, 1);
        z.cut(2, 0);
        z.cut(1, 0);
        z.pass(1);
        due.is("of a later hour the lowest number too", z.account(1), -5);
        due.is("and not the first one told", z.account(2), 0);
    }

    private static void sharesRoundDown(Due due) {
        Cablecourt x = new Cablecourt();
        x.cable(4, 5, 8, 5);
        x.sell(0, 5, 3, 3, 0);
        x.sell(0, 5, 1, 3, 0);
        x.demand(0, 0, 1, 1);
        x.demand(1, 0, 1, 1);
        x.cut(0, 0);
        x.pass(1);
        due.is("1 + 2 for each credit, and its own credit", x.account(1), -6 + 5);
        due.is("1 for each", x.account(3), -2);
        due.is("1 for each of two strands", x.account(5), -2);
        due.is("its credit", x.account(0), 5);
        x.ship(4, 100, 1);
        x.send(0, 0);
        x.pass(1);
        due.is("20 by shares too: 7 and 1 left", x.account(1), -1 - 1 - 8);
        due.is("7 and 2", x.account(3), -2 - 2 - 7);
        due.is("5 and 2", x.account(5), -2 - 2 - 5);
    }

    private static void lowestOwnerOfOneStrand(Due due) {
        Cablecourt x = new Cablecourt();
        x.cable(4, 5, 3, 4);
        x.sell(0, 4, 2, 1, 0);
        x.demand(0, 0, 1, 1);
        x.cut(0, 0);
        x.pass(1);
        due.is("5 / 3 and 1 left", x.account(2), -2);
        due.is("10 / 3", x.account(4), -3);
        x.sell(0, 4, 0, 2, 0);
        x.pass(1);
        due.is("the owners of this hour: 3, 1 left, 5 for itself", x.account(0), 5 + 5 - 4);
        due.is("not the lowest any more", x.account(2), -2 - 1);
        due.is("no owner any more", x.account(4), -3);
    }

    private static void cutAgain(Due due) {
        Cablecourt x = new Cablecourt();
        x.cable(0, 1, 1, 0);
        x.cable(0, 1, 1, 1);
        x.demand(5, 4, 5, 1);
        x.ship(0, 200, 5);
        x.cut(0, 0);
        x.send(0, 0);
        x.pass(1);
        x.cut(1, 0);
        x.pass(4);
        due.is("paid by the first one, for the ship too", x.account(0), -25 - 100);
        due.is("nothing by the second one", x.account(1), 0);
        x.cut(0, 0);
        x.pass(1);
        due.is("cut again in a later hour", x.account(0), -125);
        due.is("so the other one is earliest", x.account(1), -5);
    }
}
