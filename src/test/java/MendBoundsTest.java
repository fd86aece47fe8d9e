/** Boundary cases of ships that sail, wait and mend, and of what that costs: the Terms, and the promise 18. */
public final class MendBoundsTest {
    private static final int NONE = Cablecourt.NONE;

    public static void main(String[] args) {
        Due due = new Due("MendBoundsTest");
        sails(due);
        sailsInAStorm(due);
        thereAtTheBeginning(due);
        noStorm(due);
        storeNotEmpty(due);
        fifthHour(due);
        fifthHourInParts(due);
        takesOne(due);
        sentNoMore(due);
        costs(due);
        ownersPay(due);
        spentInAll(due);
        due.end();
    }

    /** A club with a ship at a landing, sent to a cut at a place of the line. */
    private static Cablecourt sent(int landing, int speed, int store, int spot) {
        Cablecourt x = new Cablecourt();
        x.cable(0, 5, 1, 0);
        x.cut(0, spot);
        x.ship(landing, speed, store);
        x.send(0, 0);
        return x;
    }

    private static void sails(Due due) {
        due.sentence(0, "In each hour, also in a storm, a ship that is sent sails its speed towards the place of the cut, or up to it;");
        int[] far = {1, 9, 10, 11, 19, 20, 21, 199, 200, 201, 399, 400, 401};
        for (int speed = 10; speed <= 200; speed += speed == 10 ? 10 : 180) {
            for (int way : far) {
                for (int towards = -1; towards <= 1; towards += 2) {
                    int from = towards > 0 ? 2 : 3;
                    Cablecourt x = sent(from, speed, 1, 200 * from + towards * way);
                    for (int hour = 1; hour <= 4; hour++) {
                        x.pass(1);
                        int sailed = Math.min(way, speed * hour);
                        due.is(towards * way + " with " + speed + ", hour " + hour, x.place(0), 200 * from + towards * sailed);
                    }
                }
            }
        }
        Cablecourt x = sent(0, 200, 1, 1000);
        x.pass(3);
        x.cable(0, 1, 1, 0);
        x.cut(1, 7);
        x.send(0, 1);
        x.pass(1);
        due.is("turned back", x.place(0), 400);
        x.send(0, NONE);
        x.send(0, 0);
        x.pass(1);
        due.is("and once more", x.place(0), 600);
    }

    private static void sailsInAStorm(Due due) {
        Cablecourt x = sent(5, 70, 1, 0);
        x.storm(0, 1000);
        for (int hour = 1; hour <= 16; hour++) {
            x.pass(1);
            due.is("in a storm, hour " + hour, x.place(0), Math.max(0, 1000 - 70 * hour));
        }
        due.is("it waits there", x.worked(0), 0);
        Cablecourt y = sent(5, 200, 0, 0);
        y.pass(5);
        due.is("with an empty store", y.place(0), 0);
    }

    private static void thereAtTheBeginning(Due due) {
        due.sentence(0, "if it is there at the beginning of the hour,");
        for (int way = 0; way <= 21; way++) {
            Cablecourt x = sent(2, 10, 1, 400 + way);
            int sailing = (way + 9) / 10;
            for (int hour = 1; hour <= 4; hour++) {
                x.pass(1);
                due.is(way + " away, hour " + hour, x.worked(0), Math.max(0, hour - sailing));
            }
        }
        Cablecourt y = sent(2, 200, 1, 600);
        y.pass(1);
        due.is("there at the end of the hour", y.place(0), 600);
        due.is("no work in it", y.worked(0), 0);
        y.pass(1);
        due.is("work in the next one", y.worked(0), 1);
    }

    private static void noStorm(Due due) {
        due.sentence(0, "there is no storm,");
        Cablecourt x = sent(2, 10, 1, 400);
        x.storm(1, 1);
        int[] worked = {1, 1, 2, 3, 4, 5, 5};
        for (int hour = 0; hour < worked.length; hour++) {
            x.pass(1);
            due.is("a storm in the hour 1, after the hour " + hour, x.worked(0), worked[hour]);
        }
    }

    private static void storeNotEmpty(Due due) {
        due.sentence(0, "and its store is not empty, it works;");
        for (int store = 0; store <= 10; store++) {
            Cablecourt x = sent(2, 10, store, 400);
            x.pass(1);
            due.is("a store of " + store, x.worked(0), store == 0 ? 0 : 1);
        }
        Cablecourt y = sent(2, 10, 1, 400);
        y.pass(5);
        y.cut(0, 400);
        y.send(0, 1);
        y.pass(3);
        due.is("empty by the first mending", y.worked(1), 0);
        y.send(0, NONE);
        y.fill(0, 1);
        y.send(0, 1);
        y.pass(5);
        due.is("filled again", y.isWhole(0), true);
    }

    private static void fifthHour(Due due) {
        due.sentence(0, "the fifth hour of work on a cut mends it,");
        Cablecourt x = sent(2, 10, 1, 400);
        for (int hour = 1; hour <= 6; hour++) {
            x.pass(1);
            due.is("after " + hour + " hours", x.isWhole(0), hour >= 5);
            due.is("so many", x.worked(0), Math.min(5, hour));
        }
        Cablecourt y = sent(2, 10, 1, 400);
        y.pass(24);
        due.is("in 24 hours at once", y.worked(0), 5);
        due.is("mended", y.isWhole(0), true);
        due.is("only five were paid", y.spent(), 100);
    }

    private static void fifthHourInParts(Due due) {
        Cablecourt x = sent(2, 10, 1, 400);
        x.cable(2, 3, 1, 0);
        x.cut(1, 0);
        x.pass(2);
        x.send(0, 1);
        x.pass(4);
        due.is("the hours on another cut do not count", x.worked(0), 2);
        x.send(0, 0);
        x.storm(7, 9);
        x.pass(4);
        due.is("one before the storm", x.worked(0), 3);
        x.pass(1);
        due.is("the fourth after it", x.worked(0), 4);
        x.send(0, NONE);
        x.pass(1);
        due.is("called back", x.worked(0), 4);
        due.is("not mended", x.isWhole(0), false);
        x.send(0, 0);
        x.pass(1);
        due.is("the fifth in all", x.isWhole(0), true);
        due.is("the other one is not mended", x.isWhole(1), false);
        due.is("four hours there", x.worked(1), 4);
    }

    private static void takesOne(Due due) {
        due.sentence(0, "and takes 1 from the store;");
        for (int store = 1; store <= 10; store++) {
            Cablecourt x = sent(2, 10, store, 400);
            x.pass(4);
            x.send(0, NONE);
            due.is("not before the fifth hour, of " + store, x.fill(0, store), store);
            x.send(0, 0);
            x.pass(1);
            due.is("1 of " + store, x.fill(0, 0), store - 1);
        }
        Cablecourt y = sent(2, 10, 10, 400);
        for (int k = 0; k < 10; k++) {
            y.pass(5);
            due.is("mended with what is left: cut " + k, y.isWhole(0), true);
            y.cut(0, 400);
            y.send(0, k + 1);
        }
        y.pass(5);
        due.is("the eleventh, with nothing left", y.worked(10), 0);
        y.send(0, NONE);
        due.is("nothing is left", y.fill(0, 1), 0);
    }

    private static void sentNoMore(Due due) {
        due.sentence(0, "then it is sent no more.");
        Cablecourt x = sent(2, 10, 2, 400);
        x.pass(4);
        x.storm(4, 4);
        x.pass(1);
        due.state("a storm before the fifth hour: still sent", () -> x.fill(0, 1));
        x.pass(1);
        due.is("after it: called back from nowhere", x.send(0, NONE), NONE);
        due.is("its store may be filled", x.fill(0, 5), 1);
        due.is("it stays there", x.place(0), 400);
        due.is("it was paid for six hours", x.spent(), 120);
        x.pass(1);
        due.is("and for no more", x.spent(), 120);
        x.cut(0, 0);
        x.pass(1);
        due.is("nor sent to the next cut by itself", x.spent(), 120);
        due.is("nor sails", x.place(0), 400);
        due.is("sent again", x.send(0, 1), NONE);
        x.pass(1);
        due.is("it sails", x.place(0), 390);
    }

    private static void costs(Due due) {
        due.sentence(0, "An hour in which a ship is sent, also if it sails or waits, costs 20,");
        Cablecourt x = sent(2, 10, 1, 411);
        x.storm(2, 2);
        for (int hour = 1; hour <= 9; hour++) {
            x.pass(1);
            due.is("two of sailing, one of waiting, five of work: hour " + hour, x.spent(), 20 * Math.min(8, hour));
        }
        due.is("it did so", x.isWhole(0), true);
        Cablecourt y = sent(2, 10, 0, 400);
        y.pass(24);
        due.is("waiting with an empty store", y.spent(), 480);
        y.send(0, NONE);
        y.pass(24);
        due.is("called back", y.spent(), 480);
        Cablecourt z = new Cablecourt();
        z.ship(0, 10, 1);
        z.pass(24);
        due.is("never sent", z.spent(), 0);
    }

    private static void ownersPay(Due due) {
        due.sentence(0, "which the owners of the cable pay.");
        Cablecourt x = new Cablecourt();
        x.cable(0, 1, 8, 0);
        x.cable(0, 1, 8, 5);
        x.sell(1, 5, 2, 3, 0);
        x.ship(0, 10, 1);
        x.cut(0, 0);
        x.cut(1, 0);
        x.send(0, 1);
        x.pass(1);
        due.is("60 / 8, and 1 left", x.account(2), -8);
        due.is("100 / 8", x.account(5), -12);
        due.is("not of the other cable", x.account(0), 0);
        due.is("not the club", x.account(NONE), 0);
        x.sell(1, 2, 0, 3, 0);
        x.pass(1);
        due.is("the owners that are now", x.account(0), -8);
        due.is("not the one that was", x.account(2), -8);
        x.pass(3);
        due.is("the hour that mends too", x.account(0), -8 * 4);
        due.is("the other one", x.account(5), -12 * 5);
        x.pass(1);
        due.is("no more", x.account(0), -8 * 4);
    }

    private static void spentInAll(Due due) {
        due.sentence(18, "Returns what was paid for ships in all.");
        Cablecourt x = new Cablecourt();
        x.cable(0, 5, 1, 0);
        x.cable(0, 5, 1, 1);
        x.cable(0, 5, 1, 2);
        x.demand(3, 1, 2, 4);
        due.is("nothing yet", x.spent(), 0);
        for (int s = 0; s < 3; s++) {
            x.ship(0, 10, 1);
            x.cut(s, 1000);
            x.send(s, s);
            x.pass(1);
            due.is("ships: " + (s + 1), x.spent(), s == 0 ? 20 : s == 1 ? 60 : 120);
        }
        due.is("credits are not for ships", x.account(3), 60);
        x.sell(2, 2, 1, 1, 50);
        due.is("nor sales", x.spent(), 120);
        for (int day = 0; day < 20; day++) {
            x.storm(0, 1000);
            x.pass(24);
        }
        due.is("483 hours in all, three ships", x.spent(), 120 + 480 * 60);
    }
}
