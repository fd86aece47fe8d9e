/** Boundary cases of cuts: the Terms, and the promises 5 and 21. */
public final class CutBoundsTest {
    public static void main(String[] args) {
        Due due = new Due("CutBoundsTest");
        numbers(due);
        sixteenOfOneCable(due);
        sixteenOfTenCables(due);
        ofAWholeCable(due);
        fromTheLowerLanding(due);
        places(due);
        cuttingRefused(due);
        workedAtItsEnds(due);
        workedByAll(due);
        due.end();
    }

    private static void numbers(Due due) {
        due.sentence(5, "Returns its number.");
        Cablecourt x = new Cablecourt();
        for (int c = 0; c < 10; c++) {
            x.cable(0, 1, 1, 0);
        }
        for (int k = 0; k < 10; k++) {
            int number = k;
            due.index("before the cut " + k, () -> x.worked(number));
            due.is("cut " + k, x.cut(9 - k, 200), k);
            due.is("worked(" + k + ")", x.worked(k), 0);
        }
        due.sentence(5, "Tells a cut.");
        Cablecourt y = new Cablecourt();
        y.cable(0, 1, 1, 0);
        y.demand(0, 0, 1, 1);
        y.pass(1);
        due.is("led", y.way(0), 1);
        due.is("the first", y.cut(0, 100), 0);
        due.is("not whole", y.isWhole(0), false);
        y.pass(1);
        due.is("not led", y.way(0), -1);
    }

    private static void sixteenOfOneCable(Due due) {
        due.sentence(0, "Cuts are numbered from 0, at most 16:");
        Cablecourt x = new Cablecourt();
        x.cable(2, 3, 1, 0);
        for (int k = 0; k < 16; k++) {
            if (k % 5 == 0 && k < 11) {
                x.ship(2, 200, 5);
            }
            due.is("cut " + k, x.cut(0, 0), k);
            x.send(Math.min(k / 5, 2), k);
            if (k < 15) {
                x.pass(5);
                due.is("mended", x.isWhole(0), true);
            }
        }
        due.state("not whole, and sixteen", () -> x.cut(0, 0));
        x.fill(0, 1);
        x.send(2, Cablecourt.NONE);
        x.send(0, 15);
        x.pass(5);
        due.is("the last one is mended", x.worked(15), 5);
        due.sentence(5, "Throws `IllegalStateException` if the cable is not whole, or there are 16");
        due.is("all are mended", x.isWhole(0), true);
        due.state("the seventeenth", () -> x.cut(0, 0));
        due.is("it is whole still", x.isWhole(0), true);
        due.index("there is no cut 16", () -> x.worked(16));
        x.cable(0, 1, 1, 0);
        due.state("of another cable", () -> x.cut(1, 200));
    }

    private static void sixteenOfTenCables(Due due) {
        Cablecourt x = new Cablecourt();
        x.ship(0, 10, 10);
        for (int c = 0; c < 10; c++) {
            x.cable(0, 1, 1, 0);
            due.is("cut " + c, x.cut(c, 0), c);
        }
        for (int k = 10; k < 16; k++) {
            x.send(0, k - 10);
            x.pass(5);
            due.is("cut " + k, x.cut(k - 10, 0), k);
        }
        x.send(0, 15);
        x.pass(5);
        due.is("one is whole", x.isWhole(5), true);
        due.state("the seventeenth", () -> x.cut(5, 0));
    }

    private static void ofAWholeCable(Due due) {
        due.sentence(0, "a cut is of a whole cable,");
        Cablecourt x = new Cablecourt();
        x.cable(0, 1, 1, 0);
        x.cable(0, 1, 1, 0);
        x.ship(0, 10, 1);
        due.is("the first", x.cut(0, 0), 0);
        due.state("in the same hour", () -> x.cut(0, 0));
        due.state("at another place", () -> x.cut(0, 200));
        x.send(0, 0);
        x.pass(4);
        due.state("after four hours of work", () -> x.cut(0, 0));
        due.is("of the other one", x.cut(1, 0), 1);
        x.pass(1);
        due.is("once it is mended", x.cut(0, 0), 2);
        due.state("not whole again", () -> x.cut(0, 0));
        due.index("no cut more", () -> x.worked(3));
    }

    /** A ship that is at the place of the cut works in the first hour. */
    private static int worksAt(int landing, int other, int place, int ship) {
        Cablecourt x = new Cablecourt();
        x.cable(landing, other, 1, 0);
        x.cut(0, place);
        x.ship(ship, 10, 1);
        x.send(0, 0);
        x.pass(1);
        return x.worked(0);
    }

    private static void fromTheLowerLanding(Due due) {
        due.sentence(0, "at a place from the lower one of its landings, 0 to its length.");
        for (int a = 0; a <= 5; a++) {
            for (int b = 0; b <= 5; b++) {
                int low = Math.min(a, b);
                for (int p = low; a != b && p <= Math.max(a, b); p++) {
                    String call = "cable from " + a + " to " + b + ", a ship at " + p + ", the cut ";
                    due.is(call + "there", worksAt(a, b, 200 * (p - low), p), 1);
                    if (p < Math.max(a, b)) {
                        due.is(call + "1 further", worksAt(a, b, 200 * (p - low) + 1, p), 0);
                    }
                    if (p > low) {
                        due.is(call + "1 less", worksAt(a, b, 200 * (p - low) - 1, p), 0);
                    }
                }
            }
        }
    }

    private static void places(Due due) {
        due.sentence(5, "`place`: 0 to the length of the cable");
        for (int b = 1; b <= 5; b++) {
            int length = 200 * b;
            int[] good = {0, 1, length - 1, length};
            for (int place : good) {
                Cablecourt x = new Cablecourt();
                x.cable(b, 0, 1, 0);
                due.is("place " + place + " of " + length, x.cut(0, place), 0);
            }
            Cablecourt y = new Cablecourt();
            y.cable(b, 0, 1, 0);
            y.cable(0, 5, 1, 0);
            for (int place : Due.outside(0, length)) {
                due.argument("place " + place + " of " + length, () -> y.cut(0, place));
            }
            due.is("it is whole", y.isWhole(0), true);
            due.index("no cut was told", () -> y.worked(0));
            due.is("of the longest cable", y.cut(1, 1000), 0);
        }
    }

    private static void cuttingRefused(Due due) {
        Cablecourt x = new Cablecourt();
        due.sentence(5, "Throws `IndexOutOfBoundsException` as told");
        due.index("no cable yet", () -> x.cut(0, 0));
        x.cable(0, 1, 1, 0);
        x.cable(0, 2, 1, 0);
        for (int c : Due.outside(0, 1)) {
            due.index("cable " + c, () -> x.cut(c, 0));
            due.index("cable " + c + " and place -1", () -> x.cut(c, -1));
        }
        due.sentence(5, "Throws `IllegalArgumentException` if place is out of range");
        due.argument("place -1", () -> x.cut(0, -1));
        due.argument("place 201", () -> x.cut(0, 201));
        due.argument("place 401 of the other one", () -> x.cut(1, 401));
        x.cut(0, 0);
        due.argument("place 201, and not whole", () -> x.cut(0, 201));
        due.is("the other one, by its own length", x.cut(1, 400), 1);
    }

    private static void workedAtItsEnds(Due due) {
        Cablecourt x = new Cablecourt();
        due.sentence(21, "Throws `IndexOutOfBoundsException` as told");
        due.index("no cut yet", () -> x.worked(0));
        x.cable(0, 1, 1, 0);
        x.cable(0, 1, 1, 0);
        x.cut(0, 0);
        x.cut(1, 0);
        for (int k : Due.outside(0, 1)) {
            due.index("worked(" + k + ")", () -> x.worked(k));
        }
        due.sentence(21, "Returns how many; 5 if it is mended.");
        x.ship(0, 10, 2);
        x.send(0, 1);
        for (int hour = 1; hour <= 7; hour++) {
            x.pass(1);
            due.is("after " + hour, x.worked(1), Math.min(5, hour));
            due.is("not on the other one", x.worked(0), 0);
        }
        x.cut(1, 0);
        x.send(0, 2);
        x.pass(1);
        due.is("the mended one as before", x.worked(1), 5);
        due.is("the new one of the same cable", x.worked(2), 1);
    }

    private static void workedByAll(Due due) {
        due.sentence(21, "Returns how many hours a ship has worked on a cut, all ships that were there.");
        Cablecourt x = new Cablecourt();
        x.cable(0, 1, 1, 0);
        x.cut(0, 0);
        for (int s = 0; s < 3; s++) {
            x.ship(0, 10, 1);
        }
        int[] turns = {0, 1, 2, 0, 1};
        for (int hour = 0; hour < 5; hour++) {
            due.is("before the hour " + hour, x.worked(0), hour);
            due.is("not mended", x.isWhole(0), false);
            x.send(turns[hour], 0);
            x.pass(1);
            due.is("sent until then", x.send(turns[hour], Cablecourt.NONE), hour < 4 ? 0 : Cablecourt.NONE);
        }
        due.is("by all of them", x.worked(0), 5);
        due.is("mended", x.isWhole(0), true);
        due.is("the one of the fifth hour has less", x.fill(1, 0), 0);
        due.is("the others have not", x.fill(0, 0) + x.fill(2, 0), 2);
    }
}
