/** Boundary cases of ships, where they are sent, and their stores: the Terms, and the promises 6, 7, 8 and 20. */
public final class ShipBoundsTest {
    private static final int NONE = Cablecourt.NONE;

    public static void main(String[] args) {
        Due due = new Due("ShipBoundsTest");
        numbers(due);
        speedsAndStores(due);
        addingRefused(due);
        placeAtItsEnds(due);
        sentToACut(due);
        sentOrCalledBack(due);
        sendingRefused(due);
        mendedOrSent(due);
        stores(due);
        whatItHad(due);
        fillingRefused(due);
        atALanding(due);
        due.end();
    }

    private static void numbers(Due due) {
        due.sentence(0, "Ships are numbered from 0, at most 3:");
        Cablecourt x = new Cablecourt();
        for (int s = 0; s < 3; s++) {
            int number = s;
            due.index("before the ship " + s, () -> x.place(number));
            due.is("ship " + s, x.ship(5 - s, 10, s), s);
            due.is("place(" + s + ")", x.place(s), 1000 - 200 * s);
        }
        due.sentence(6, "Throws `IllegalStateException` if there are 3");
        due.state("the fourth", () -> x.ship(0, 10, 0));
        due.state("the fourth, the largest", () -> x.ship(5, 200, 10));
        due.index("there is no ship 3", () -> x.place(3));
        due.index("nothing is sent", () -> x.send(3, NONE));
        due.sentence(6, "Returns its number.");
        Cablecourt y = new Cablecourt();
        due.is("the first", y.ship(0, 10, 0), 0);
        due.argument("a refused one has none", () -> y.ship(0, 9, 0));
        due.is("the second, quite the same", y.ship(0, 10, 0), 1);
    }

    private static int sailsInAnHour(int speed) {
        Cablecourt x = new Cablecourt();
        x.cable(0, 5, 1, 0);
        x.cut(0, 1000);
        x.ship(0, speed, 1);
        x.send(0, 0);
        x.pass(1);
        return x.place(0);
    }

    private static void speedsAndStores(Due due) {
        due.sentence(6, "`speed`: 10 to 200");
        int[] speeds = {10, 11, 199, 200};
        for (int speed : speeds) {
            due.is("speed " + speed, sailsInAnHour(speed), speed);
        }
        Cablecourt x = new Cablecourt();
        due.argument("speed 9", () -> x.ship(0, 9, 0));
        due.argument("speed 201", () -> x.ship(0, 201, 0));
        due.sentence(6, "`store`: 0 to 10");
        for (int store = 0; store <= 10; store++) {
            Cablecourt y = new Cablecourt();
            due.is("store " + store, y.ship(0, 10, store), 0);
            due.is("it has it", y.fill(0, 0), store);
        }
        due.argument("store -1", () -> x.ship(0, 10, -1));
        due.argument("store 11", () -> x.ship(0, 10, 11));
        due.sentence(6, "`landing`: where it is");
        due.is("at the first", x.ship(0, 10, 0), 0);
        due.is("place(0)", x.place(0), 0);
        due.is("at the last", x.ship(5, 200, 10), 1);
        due.is("place(1)", x.place(1), 1000);
        due.sentence(6, "Adds a ship.");
        due.is("one more", x.ship(3, 77, 7), 2);
        due.is("its place", x.place(2), 600);
        due.is("its store", x.fill(2, 7), 7);
        due.is("it is sent nowhere", x.send(2, NONE), NONE);
    }

    private static void addingRefused(Due due) {
        Cablecourt x = new Cablecourt();
        due.sentence(6, "Throws `IndexOutOfBoundsException` as told");
        for (int p : Due.outside(0, 5)) {
            due.index("landing " + p, () -> x.ship(p, 10, 0));
            due.index("landing " + p + " and speed 9", () -> x.ship(p, 9, 0));
            due.index("landing " + p + " and store 11", () -> x.ship(p, 10, 11));
        }
        due.sentence(6, "Throws `IllegalArgumentException` if speed or store is out of range");
        for (int speed : Due.outside(10, 200)) {
            due.argument("speed " + speed, () -> x.ship(0, speed, 0));
        }
        for (int store : Due.outside(0, 10)) {
            due.argument("store " + store, () -> x.ship(0, 10, store));
        }
        due.argument("speed and store", () -> x.ship(0, 0, 20));
        due.index("none was added", () -> x.place(0));
    }

    private static void placeAtItsEnds(Due due) {
        Cablecourt x = new Cablecourt();
        due.sentence(20, "Throws `IndexOutOfBoundsException` as told");
        due.index("no ship yet", () -> x.place(0));
        x.ship(5, 200, 1);
        x.ship(0, 200, 1);
        for (int s : Due.outside(0, 1)) {
            due.index("place(" + s + ")", () -> x.place(s));
        }
        due.sentence(20, "Returns the place of a ship on the line.");
        x.cable(0, 5, 1, 0);
        x.cut(0, 0);
        due.is("the last place of the line", x.place(0), 1000);
        x.send(0, 0);
        due.is("sent, no hour yet", x.place(0), 1000);
        for (int hour = 1; hour <= 6; hour++) {
            x.pass(1);
            due.is("after " + hour, x.place(0), Math.max(0, 1000 - 200 * hour));
            due.is("the other one stays", x.place(1), 0);
        }
    }

    private static Cablecourt threeShipsAndTwoCuts() {
        Cablecourt x = new Cablecourt();
        x.cable(0, 5, 1, 0);
        x.cable(0, 5, 1, 0);
        x.cut(0, 500);
        x.cut(1, 500);
        for (int s = 0; s < 3; s++) {
            x.ship(0, 100, 1);
        }
        return x;
    }

    private static void sentToACut(Due due) {
        due.sentence(0, "a ship has a place on the line, a speed, and a store. It is sent to a cut that is not mended,");
        Cablecourt x = threeShipsAndTwoCuts();
        x.send(0, 0);
        x.pass(5 + 4);
        x.send(0, NONE);
        due.is("four hours of work: not mended", x.send(0, 0), NONE);
        x.pass(1);
        due.is("it is sent no more", x.send(0, NONE), NONE);
        due.state("five hours of work: mended", () -> x.send(0, 0));
        due.state("for the others too", () -> x.send(2, 0));
        due.is("to the other one", x.send(0, 1), NONE);
        due.sentence(0, "and to which no ship is sent, itself neither,");
        Cablecourt y = threeShipsAndTwoCuts();
        for (int s = 0; s < 3; s++) {
            int ship = s;
            due.is("ship " + s, y.send(s, 1), NONE);
            for (int o = 0; o < 3; o++) {
                int other = o;
                due.state("the ship " + s + " is sent there: " + o, () -> y.send(other, 1));
            }
            due.is("called back", y.send(s, NONE), 1);
            due.is("open again", y.send((s + 1) % 3, 1), NONE);
            due.state("but not for " + s, () -> y.send(ship, 1));
            y.send((s + 1) % 3, NONE);
        }
    }

    private static void sentOrCalledBack(Due due) {
        due.sentence(0, "or called back.");
        Cablecourt x = threeShipsAndTwoCuts();
        due.is("called back before it was sent", x.send(0, NONE), NONE);
        x.send(0, 1);
        due.is("in the same hour", x.send(0, NONE), 1);
        x.pass(1);
        due.is("it did not sail", x.place(0), 0);
        due.is("it cost nothing", x.spent(), 0);
        due.sentence(7, "Sends a ship to a cut, or calls it back, which stays where it is.");
        x.send(0, 1);
        x.pass(2);
        x.send(0, NONE);
        due.is("called back", x.place(0), 200);
        x.pass(24);
        due.is("stays there", x.place(0), 200);
        due.is("two hours were paid", x.spent(), 40);
        due.sentence(7, "`cut`: the cut, or NONE");
        due.is("the first cut", x.send(0, 0), NONE);
        due.is("the last cut", x.send(0, 1), 0);
        due.is("NONE", x.send(0, NONE), 1);
        due.sentence(7, "Returns the cut to which it was sent before; NONE if there was none.");
        due.is("none", x.send(2, 0), NONE);
        due.is("0", x.send(2, 1), 0);
        due.is("1", x.send(2, 0), 1);
        due.is("0 again", x.send(2, NONE), 0);
        due.is("none again", x.send(2, NONE), NONE);
        due.is("none, of another one", x.send(1, NONE), NONE);
    }

    private static void sendingRefused(Due due) {
        due.sentence(7, "Throws `IndexOutOfBoundsException` as told, of the ship, or if cut is neither a cut nor NONE");
        Cablecourt x = new Cablecourt();
        due.index("no ship yet", () -> x.send(0, NONE));
        x.ship(0, 10, 1);
        due.index("no cut yet", () -> x.send(0, 0));
        x.cable(0, 1, 1, 0);
        x.cut(0, 0);
        for (int s : Due.outside(0, 0)) {
            due.index("ship " + s, () -> x.send(s, 0));
            due.index("ship " + s + " called back", () -> x.send(s, NONE));
        }
        for (int k : Due.outside(NONE, 0)) {
            due.index("cut " + k, () -> x.send(0, k));
        }
        due.is("nothing was sent", x.send(0, 0), NONE);
        due.index("no ship, and the cut has one", () -> x.send(1, 0));
        for (int k : Due.outside(NONE, 0)) {
            due.index("cut " + k + ", sent already", () -> x.send(0, k));
        }
        due.is("it is sent as before", x.send(0, NONE), 0);
    }

    private static void mendedOrSent(Due due) {
        due.sentence(7, "Throws `IllegalStateException` if the cut is mended, or a ship is sent to it");
        Cablecourt x = new Cablecourt();
        x.cable(0, 1, 1, 0);
        x.cable(0, 1, 1, 0);
        x.cut(0, 0);
        x.cut(1, 0);
        x.ship(0, 10, 1);
        x.ship(0, 10, 1);
        x.send(0, 0);
        x.send(1, 1);
        due.state("a ship is sent to it", () -> x.send(0, 1));
        due.state("itself is sent to it", () -> x.send(0, 0));
        x.pass(4);
        due.state("in its fourth hour", () -> x.send(1, 0));
        x.pass(1);
        due.state("mended", () -> x.send(0, 0));
        due.state("mended by another one", () -> x.send(0, 1));
        x.cut(0, 0);
        due.state("its cable is cut again, it is mended", () -> x.send(0, 0));
        due.is("the new one", x.send(0, 2), NONE);
        due.state("mended, while it is sent", () -> x.send(0, 0));
        due.is("as it was sent", x.send(0, NONE), 2);
    }

    private static void stores(Due due) {
        due.sentence(8, "`store`: 0 to 10, what it has then");
        Cablecourt x = new Cablecourt();
        x.ship(0, 10, 10);
        for (int store = 0; store <= 10; store++) {
            x.fill(0, store);
            due.is("fill(0, " + store + ")", x.fill(0, store), store);
        }
        due.argument("fill(0, -1)", () -> x.fill(0, -1));
        due.argument("fill(0, 11)", () -> x.fill(0, 11));
        due.is("it is not added, nor less than it was", x.fill(0, 3), 10);
        due.is("3", x.fill(0, 0), 3);
    }

    private static void whatItHad(Due due) {
        due.sentence(8, "Returns what it had.");
        Cablecourt x = new Cablecourt();
        x.ship(0, 10, 0);
        x.ship(3, 10, 10);
        due.is("nothing", x.fill(0, 5), 0);
        due.is("all", x.fill(1, 0), 10);
        due.is("what was filled", x.fill(0, 5), 5);
        x.cable(0, 1, 1, 0);
        x.cut(0, 0);
        x.send(0, 0);
        x.pass(4);
        x.send(0, NONE);
        due.is("four hours take nothing", x.fill(0, 10), 5);
        x.send(0, 0);
        x.pass(1);
        due.is("the fifth one takes 1", x.fill(0, 10), 9);
        due.sentence(8, "Throws `IllegalArgumentException` if store is out of range");
        for (int store : Due.outside(0, 10)) {
            due.argument("store " + store, () -> x.fill(0, store));
        }
        due.is("it has what it had", x.fill(0, 10), 10);
    }

    private static void fillingRefused(Due due) {
        Cablecourt x = new Cablecourt();
        due.sentence(8, "Throws `IndexOutOfBoundsException` as told");
        due.index("no ship yet", () -> x.fill(0, 0));
        x.ship(0, 10, 4);
        x.ship(0, 10, 4);
        for (int s : Due.outside(0, 1)) {
            due.index("ship " + s, () -> x.fill(s, 5));
            due.index("ship " + s + " and store 11", () -> x.fill(s, 11));
        }
        due.sentence(8, "Fills the store of a ship that is sent nowhere.");
        x.cable(0, 1, 1, 0);
        x.cut(0, 0);
        due.is("it is sent nowhere", x.fill(0, 6), 4);
        x.send(0, 0);
        due.state("it is sent, and at the place of a landing", () -> x.fill(0, 1));
        due.argument("store 11, and it is sent", () -> x.fill(0, 11));
        due.is("the other one is not", x.fill(1, 1), 4);
        x.send(0, NONE);
        due.is("called back", x.fill(0, 2), 6);
        x.send(0, 0);
        x.pass(5);
        due.is("sent no more, for the cut is mended", x.fill(0, 3), 1);
    }

    private static void atALanding(Due due) {
        due.sentence(8, "Throws `IllegalStateException` if it is sent, or not at the place of a landing");
        Cablecourt x = new Cablecourt();
        x.cable(0, 5, 1, 0);
        x.cut(0, 1000);
        x.ship(0, 10, 0);
        for (int hour = 1; hour <= 100; hour++) {
            x.send(0, 0);
            x.pass(1);
            x.send(0, NONE);
            int store = hour % 11;
            if (hour % 20 == 0) {
                due.is("the landing at " + x.place(0), x.fill(0, store) >= 0, true);
            } else {
                due.state("at the place " + 10 * hour, () -> x.fill(0, store));
            }
        }
        due.is("100 at the last landing", x.fill(0, 0), 1);
        Cablecourt y = new Cablecourt();
        y.cable(0, 1, 1, 0);
        y.ship(0, 100, 0);
        y.ship(1, 100, 0);
        y.cut(0, 199);
        y.send(1, 0);
        y.pass(1);
        y.send(1, NONE);
        due.state("1 below a landing", () -> y.fill(1, 1));
        due.argument("store 11, and not at a landing", () -> y.fill(1, 11));
        y.cable(0, 1, 1, 0);
        y.cut(1, 1);
        y.send(0, 1);
        y.pass(1);
        y.send(0, NONE);
        due.state("1 above a landing", () -> y.fill(0, 1));
    }
}
