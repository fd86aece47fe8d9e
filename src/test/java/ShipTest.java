/** Promises 6, 7, 8, 9, 18, 20 and 21: ship, send, fill, storm, spent, place, worked. */
public final class ShipTest {
    public static void main(String[] args) {
        Due due = new Due("ShipTest");
        ships(due);
        sends(due);
        fills(due);
        sailsAndMends(due);
        sharedWork(due);
        storms(due);
        stormArguments(due);
        emptyStore(due);
        due.end();
    }

    private static void ships(Due due) {
        Cablecourt x = new Cablecourt();
        due.index("landing 6", () -> x.ship(6, 10, 0));
        due.index("landing -1", () -> x.ship(-1, 10, 0));
        due.index("index before argument", () -> x.ship(6, 9, 11));
        due.argument("speed 9", () -> x.ship(0, 9, 0));
        due.argument("speed 201", () -> x.ship(0, 201, 0));
        due.argument("store -1", () -> x.ship(0, 10, -1));
        due.argument("store 11", () -> x.ship(0, 10, 11));
        due.index("place(0)", () -> x.place(0));
        due.is("ship(0, 10, 0)", x.ship(0, 10, 0), 0);
        due.is("ship(5, 200, 10)", x.ship(5, 200, 10), 1);
        due.is("ship(3, 50, 1)", x.ship(3, 50, 1), 2);
        due.is("place(0)", x.place(0), 0);
        due.is("place(1)", x.place(1), 1000);
        due.is("place(2)", x.place(2), 600);
        due.index("place(3)", () -> x.place(3));
        due.index("place(-1)", () -> x.place(-1));
        due.state("the fourth", () -> x.ship(0, 10, 0));
        due.argument("argument before state", () -> x.ship(0, 9, 0));
        due.is("fill answers the store", x.fill(1, 0), 10);
        due.is("fill answers the store of 2", x.fill(2, 10), 1);
        x.pass(1);
        due.is("a ship that is not sent costs nothing", x.spent(), 0);
    }

    private static void sends(Due due) {
        Cablecourt x = new Cablecourt();
        x.cable(0, 5, 2, 0);
        x.cable(0, 5, 2, 0);
        x.ship(0, 10, 1);
        x.ship(0, 10, 1);
        due.index("no cut", () -> x.send(0, 0));
        x.cut(0, 1000);
        x.cut(1, 1000);
        due.index("ship 2", () -> x.send(2, 0));
        due.index("ship -1", () -> x.send(-1, 0));
        due.index("cut 2", () -> x.send(0, 2));
        due.index("cut -2", () -> x.send(0, -2));
        due.is("called back, not sent", x.send(0, Cablecourt.NONE), Cablecourt.NONE);
        due.is("send(0, 0)", x.send(0, 0), Cablecourt.NONE);
        due.state("itself is sent", () -> x.send(0, 0));
        due.state("another is sent", () -> x.send(1, 0));
        due.is("to another cut", x.send(0, 1), 0);
        due.is("the first one is open again", x.send(1, 0), Cablecourt.NONE);
        x.pass(2);
        due.is("both are paid for", x.spent(), 80);
        due.is("called back", x.send(0, Cablecourt.NONE), 1);
        due.is("stays where it is", x.place(0), 20);
        x.pass(1);
        due.is("and stays", x.place(0), 20);
        due.is("only one is paid for", x.spent(), 100);
        due.is("sent again", x.send(0, 1), Cablecourt.NONE);
    }

    private static void fills(Due due) {
        Cablecourt x = new Cablecourt();
        x.cable(0, 5, 2, 0);
        x.ship(1, 70, 3);
        x.cut(0, 1000);
        due.index("ship 1", () -> x.fill(1, 0));
        due.index("ship -1", () -> x.fill(-1, 0));
        due.index("index before argument", () -> x.fill(1, 11));
        due.argument("store -1", () -> x.fill(0, -1));
        due.argument("store 11", () -> x.fill(0, 11));
        due.is("fill(0, 10)", x.fill(0, 10), 3);
        due.is("fill(0, 0)", x.fill(0, 0), 10);
        x.send(0, 0);
        due.state("is sent, at a landing", () -> x.fill(0, 5));
        due.argument("argument before state", () -> x.fill(0, 11));
        x.pass(1);
        x.send(0, Cablecourt.NONE);
        due.state("not at a landing", () -> x.fill(0, 5));
        x.send(0, 0);
        x.pass(11);
        x.send(0, Cablecourt.NONE);
        due.is("at the place 1000", x.place(0), 1000);
        due.is("fill at the landing 5", x.fill(0, 5), 0);
        due.is("what it has then", x.fill(0, 6), 5);
    }

    private static void sailsAndMends(Due due) {
        Cablecourt x = new Cablecourt();
        x.cable(4, 2, 1, 0);
        x.ship(0, 150, 2);
        x.ship(5, 200, 2);
        x.cut(0, 30);
        x.send(0, 0);
        x.pass(1);
        due.is("150 on", x.place(0), 150);
        x.pass(2);
        due.is("up to it", x.place(0), 430);
        due.is("no work yet", x.worked(0), 0);
        x.pass(4);
        due.is("four hours", x.worked(0), 4);
        due.is("still cut", x.isWhole(0), false);
        x.pass(1);
        due.is("the fifth one mends", x.worked(0), 5);
        due.is("whole", x.isWhole(0), true);
        due.is("eight hours are paid", x.spent(), 160);
        due.is("by the owner", x.account(0), -160);
        x.pass(1);
        due.is("it is sent no more", x.spent(), 160);
        due.is("worked stays", x.worked(0), 5);
        due.is("stays at the cut", x.place(0), 430);
        due.state("mended", () -> x.send(1, 0));
        due.is("sent nowhere", x.send(0, Cablecourt.NONE), Cablecourt.NONE);
        x.cut(0, 0);
        x.send(0, 1);
        x.pass(1);
        due.is("sails back to 400", x.place(0), 400);
        x.pass(5);
        due.is("takes 1 from the store each time", x.fill(0, 3), 0);
        x.cut(0, 400);
        x.send(1, 2);
        x.pass(1);
        due.is("down from 1000", x.place(1), 800);
    }

    private static void sharedWork(Due due) {
        Cablecourt x = new Cablecourt();
        x.cable(0, 1, 1, 0);
        x.ship(0, 10, 1);
        x.ship(0, 10, 1);
        x.cut(0, 0);
        x.send(0, 0);
        x.pass(3);
        x.send(0, Cablecourt.NONE);
        x.send(1, 0);
        x.pass(1);
        due.is("all ships that were there", x.worked(0), 4);
        x.pass(1);
        due.is("mended", x.isWhole(0), true);
        due.is("the one that mends has less", x.fill(1, 0), 0);
        due.is("the other one has as much", x.fill(0, 0), 1);
    }

    private static void storms(Due due) {
        Cablecourt x = new Cablecourt();
        x.cable(0, 5, 1, 0);
        x.ship(0, 100, 1);
        x.cut(0, 200);
        x.send(0, 0);
        x.storm(1, 3);
        x.pass(2);
        due.is("sails in a storm", x.place(0), 200);
        x.pass(2);
        due.is("waits in the hours 2 and 3", x.worked(0), 0);
        due.is("a waiting hour costs", x.spent(), 80);
        x.pass(1);
        due.is("works in the hour 4", x.worked(0), 1);
        x.storm(5, 5);
        x.pass(1);
        due.is("waits in the hour 5", x.worked(0), 1);
        x.pass(1);
        due.is("works in the hour 6", x.worked(0), 2);
        x.storm(7, 1000);
        x.storm(8, 8);
        x.pass(1);
        due.is("the storm before is told no more", x.worked(0), 3);
        x.pass(1);
        due.is("waits in the hour 8", x.worked(0), 3);
        Cablecourt y = new Cablecourt();
        y.cable(0, 5, 1, 0);
        y.ship(0, 100, 1);
        y.cut(0, 0);
        y.send(0, 0);
        y.storm(0, 0);
        y.pass(1);
        due.is("waits in the hour 0", y.worked(0), 0);
        y.pass(1);
        due.is("works in the hour 1", y.worked(0), 1);
    }

    private static void stormArguments(Due due) {
        Cablecourt x = new Cablecourt();
        x.cable(0, 1, 1, 0);
        x.ship(0, 10, 1);
        x.cut(0, 0);
        x.send(0, 0);
        due.argument("from -1", () -> x.storm(-1, 5));
        due.argument("from 1001", () -> x.storm(1001, 1001));
        due.argument("to below from", () -> x.storm(5, 4));
        due.argument("to 1001", () -> x.storm(0, 1001));
        x.pass(1);
        due.is("no storm was told", x.worked(0), 1);
        due.refuses("storm(0, 1000)", null, () -> x.storm(0, 1000));
        due.argument("from above to", () -> x.storm(3, 2));
        x.pass(1);
        due.is("the storm before stays", x.worked(0), 1);
        due.refuses("storm(1000, 1000)", null, () -> x.storm(1000, 1000));
        x.pass(1);
        due.is("no storm now", x.worked(0), 2);
    }

    private static void emptyStore(Due due) {
        Cablecourt x = new Cablecourt();
        x.cable(0, 1, 1, 2);
        x.ship(0, 10, 0);
        x.cut(0, 0);
        x.send(0, 0);
        x.pass(3);
        due.is("no work without a store", x.worked(0), 0);
        due.is("it is paid all the same", x.account(2), -60);
        x.send(0, Cablecourt.NONE);
        x.fill(0, 1);
        x.send(0, 0);
        x.pass(5);
        due.is("mended", x.worked(0), 5);
        due.is("empty", x.fill(0, 1), 0);
    }
}
