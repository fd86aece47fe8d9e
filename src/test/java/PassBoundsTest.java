/** Boundary cases of hours and of what happens in one: the Terms, and the promise 10. */
public final class PassBoundsTest {
    private static final int NONE = Cablecourt.NONE;

    public static void main(String[] args) {
        Due due = new Due("PassBoundsTest");
        hours(due);
        theNextHour(due);
        outOfRange(due);
        above500(due);
        upTo500(due);
        manyAreAsManyTimesOne(due);
        demandsBeforeShips(due);
        shipsByTheirNumbers(due);
        fromTheNextHourOn(due);
        due.end();
    }

    private static void hours(Due due) {
        due.sentence(10, "`hours`: 1 to 24");
        for (int hours = 1; hours <= 24; hours++) {
            Cablecourt x = new Cablecourt();
            x.demand(0, 0, 1, 1);
            due.is("pass(" + hours + ")", x.pass(hours), hours);
            due.is("so many credits", x.account(0), 5 * hours);
        }
        Cablecourt y = new Cablecourt();
        due.argument("pass(0)", () -> y.pass(0));
        due.argument("pass(25)", () -> y.pass(25));
        due.sentence(10, "Lets hours go by.");
        y.demand(0, 0, 1, 1);
        due.is("none by itself", y.account(0), 0);
        due.is("three", y.pass(3), 3);
        due.is("three credits", y.account(0), 15);
    }

    private static void theNextHour(Due due) {
        due.sentence(10, "Returns the hour that is next.");
        Cablecourt x = new Cablecourt();
        int next = 0;
        for (int hours = 1; hours <= 24; hours++) {
            next += hours;
            due.is("pass(" + hours + ")", x.pass(hours), next);
        }
        due.is("300 by now", next, 300);
    }

    private static void outOfRange(Due due) {
        due.sentence(10, "Throws `IllegalArgumentException` if hours is out of range");
        Cablecourt x = new Cablecourt();
        x.demand(0, 0, 1, 1);
        for (int hours : Due.outside(1, 24)) {
            due.argument("pass(" + hours + ")", () -> x.pass(hours));
        }
        due.is("no hour goes by", x.account(0), 0);
        due.is("the next one is 1", x.pass(1), 1);
        Due.passHours(x, 499);
        for (int hours : Due.outside(1, 24)) {
            due.argument("pass(" + hours + ") in the hour 500", () -> x.pass(hours));
        }
    }

    private static void above500(Due due) {
        due.sentence(10, "Throws `IllegalStateException` if it would be above 500");
        for (int left = 0; left <= 24; left++) {
            Cablecourt x = new Cablecourt();
            x.demand(0, 0, 1, 1);
            Due.passHours(x, 500 - left);
            for (int hours = left + 1; hours <= 24; hours++) {
                int more = hours;
                due.state(left + " are left: pass(" + hours + ")", () -> x.pass(more));
            }
            due.is("no hour goes by", x.account(0), 5 * (500 - left));
            if (left > 0) {
                due.is("just as many", x.pass(left), 500);
                due.is("all of them", x.account(0), 2500);
            }
            due.state("none is left", () -> x.pass(1));
        }
    }

    private static void upTo500(Due due) {
        Cablecourt x = new Cablecourt();
        Due.passHours(x, 500);
        due.is("cable", x.cable(0, 1, 8, 0), 0);
        due.is("demand", x.demand(0, 0, 1, 1), 0);
        due.is("sell", x.sell(0, 0, 1, 1, 5), 1);
        due.is("cut", x.cut(0, 0), 0);
        due.is("ship", x.ship(0, 10, 1), 0);
        due.is("send", x.send(0, 0), NONE);
        due.refuses("storm", null, () -> x.storm(500, 500));
        due.is("way", x.way(0), NONE);
        due.is("account", x.account(0), 5);
        due.is("owesAnew", x.owesAnew(0, 1), 0);
        due.state("pass(1)", () -> x.pass(1));
    }

    private static Cablecourt busy() {
        Cablecourt x = new Cablecourt();
        x.cable(0, 2, 3, 0);
        x.cable(2, 5, 3, 1);
        x.cable(5, 0, 2, 2);
        x.demand(1, 0, 5, 2);
        x.demand(2, 5, 0, 2);
        x.demand(3, 0, 2, 1);
        x.demand(4, 2, 5, 1);
        x.ship(0, 70, 1);
        x.ship(5, 90, 2);
        x.cut(1, 300);
        x.send(0, 0);
        x.cut(0, 399);
        x.send(1, 1);
        x.storm(6, 8);
        return x;
    }

    private static void manyAreAsManyTimesOne(Due due) {
        for (int hours = 1; hours <= 24; hours++) {
            Cablecourt x = busy();
            Cablecourt y = busy();
            x.pass(hours);
            for (int i = 0; i < hours; i++) {
                y.pass(1);
            }
            due.is("the seal after " + hours, x.seal(), y.seal());
            due.is("what was spent", x.spent(), y.spent());
            for (int m = NONE; m <= 5; m++) {
                due.is("account(" + m + ")", x.account(m), y.account(m));
            }
            for (int d = 0; d < 4; d++) {
                due.is("way(" + d + ")", x.way(d), y.way(d));
            }
            due.is("place(0)", x.place(0), y.place(0));
            due.is("place(1)", x.place(1), y.place(1));
        }
    }

    private static void demandsBeforeShips(Due due) {
        due.sentence(0, "In each hour that goes by, in this order: demands are led, and owed and credited for;");
        Cablecourt x = new Cablecourt();
        x.cable(0, 1, 1, 1);
        x.demand(0, 0, 1, 1);
        x.cut(0, 0);
        x.ship(0, 10, 1);
        x.send(0, 0);
        x.pass(5);
        due.is("not led in the hour that mends", x.way(0), NONE);
        due.is("credited for in it", x.account(0), 25);
        due.is("by the owner of what was cut then", x.account(1), -25 - 100);
        due.is("not owed for in it", x.owes(0, 1), 0);
        x.pass(1);
        due.is("led in the next one", x.way(0), 1);
        due.is("owed for in it", x.owes(0, 1), 200);
        due.is("not credited for", x.account(0), 25);
    }

    private static void shipsByTheirNumbers(Due due) {
        due.sentence(0, "then ships do what they do, by their numbers; then the hour is over.");
        Cablecourt x = new Cablecourt();
        for (int c = 0; c < 3; c++) {
            x.cable(0, 1, 3, 5);
            x.sell(c, 5, c, 1, 0);
            x.cut(c, 0);
            x.ship(0, 10, 1);
            x.send(c, c);
        }
        x.storm(1, 1);
        x.pass(1);
        for (int k = 0; k < 3; k++) {
            due.is("each of them worked: " + k, x.worked(k), 1);
            due.is("each was paid for", x.account(k), -7);
        }
        due.is("by the other owner too", x.account(5), -39);
        x.pass(1);
        due.is("the hour 0 is over, the hour 1 has a storm", x.worked(2), 1);
        x.pass(4);
        for (int k = 0; k < 3; k++) {
            due.is("mended: " + k, x.isWhole(k), true);
        }
        due.is("six hours of three ships", x.spent(), 360);
    }

    private static void fromTheNextHourOn(Due due) {
        due.sentence(0, "What is told between is so from the next hour on.");
        Cablecourt x = new Cablecourt();
        x.cable(0, 1, 1, 1);
        x.demand(0, 0, 1, 1);
        x.pass(1);
        due.is("the hour 0", x.owes(0, 1), 200);
        x.sell(0, 1, 2, 1, 0);
        due.is("a sale changes nothing of it", x.owes(0, 1), 200);
        due.is("nor to the other one", x.owes(0, 2), 0);
        x.pass(1);
        due.is("the hour 1 is the buyer's", x.owes(0, 2), 200);
        due.is("no more to the other one", x.owes(0, 1), 200);
        x.sell(0, 2, 0, 1, 0);
        x.sell(0, 0, 3, 1, 0);
        x.pass(1);
        due.is("what was between two sales is not so", x.owes(0, 3), 200);
        due.is("nor its lending", x.lent(0), 1);
        x.cut(0, 0);
        due.is("a cut changes nothing of the hour before", x.account(0), 0);
        x.pass(1);
        due.is("a credit in the next one", x.account(0), 5);
        x.cable(0, 1, 1, 0);
        due.is("a cable neither", x.account(0), 5);
        x.pass(1);
        due.is("it is led over it in the next one", x.way(0), 2);
        x.demand(0, 1, 0, 1);
        due.is("a demand neither", x.account(0), 5);
        x.pass(1);
        due.is("it is credited for in the next one", x.account(0), 10);
    }
}
