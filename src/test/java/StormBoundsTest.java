/** Boundary cases of storms: the Terms, and the promise 9. */
public final class StormBoundsTest {
    public static void main(String[] args) {
        Due due = new Due("StormBoundsTest");
        bothWithThem(due);
        firstAndLastHour(due);
        inPlaceOfTheOneBefore(due);
        hoursThatAreOver(due);
        fromAndTo(due);
        refused(due);
        due.end();
    }

    /** A club with a ship at its cut, after so many hours, with a store for all of them. */
    private static Cablecourt atWork(int hours) {
        Cablecourt x = new Cablecourt();
        Due.passHours(x, hours);
        x.cable(0, 1, 1, 0);
        x.cut(0, 0);
        x.ship(0, 10, 10);
        x.send(0, 0);
        return x;
    }

    /** The hours, bit by bit from the first one on, in which the ship works; it is mended after five. */
    private static int workedIn(Cablecourt x, int hours) {
        int set = 0;
        for (int i = 0; i < hours; i++) {
            int before = x.worked(0);
            x.pass(1);
            set |= x.worked(0) - before << i;
        }
        return set;
    }

    private static void bothWithThem(Due due) {
        due.sentence(0, "A storm is told for hours from one to another one, both with them,");
        for (int from = 0; from <= 4; from++) {
            for (int to = from; to <= 5; to++) {
                Cablecourt x = atWork(0);
                x.storm(from, to);
                int want = 0;
                for (int hour = 0, worked = 0; hour < 12 && worked < 5; hour++) {
                    if (hour < from || hour > to) {
                        want |= 1 << hour;
                        worked++;
                    }
                }
                due.is("storm(" + from + ", " + to + ")", workedIn(x, 12), want);
            }
        }
        due.sentence(9, "Tells a storm.");
        due.is("no storm told: five hours of work", workedIn(atWork(0), 12), 31);
        Cablecourt y = atWork(0);
        y.storm(2, 3);
        due.is("told: two of waiting between them", workedIn(y, 12), 0b1110011);
    }

    private static void firstAndLastHour(Due due) {
        due.sentence(9, "`from`: 0 to 1000");
        Cablecourt x = atWork(0);
        x.storm(0, 0);
        due.is("the hour 0 alone", workedIn(x, 2), 2);
        Cablecourt y = atWork(498);
        y.storm(499, 499);
        due.is("the last hour alone", workedIn(y, 2), 1);
        Cablecourt z = atWork(498);
        z.storm(498, 498);
        due.is("the last but one", workedIn(z, 2), 2);
        Cablecourt w = atWork(498);
        w.storm(500, 1000);
        due.is("after the last one", workedIn(w, 2), 3);
        Cablecourt v = atWork(498);
        v.storm(1000, 1000);
        due.is("from 1000", workedIn(v, 2), 3);
        due.argument("from -1", () -> v.storm(-1, 1000));
        due.argument("from 1001", () -> v.storm(1001, 1001));
        due.sentence(9, "`to`: from to 1000");
        Cablecourt u = atWork(498);
        u.storm(0, 1000);
        due.is("all of them", workedIn(u, 2), 0);
        due.refuses("from 999 to 1000", null, () -> u.storm(999, 1000));
        due.refuses("from 0 to 0", null, () -> u.storm(0, 0));
        due.refuses("from 7 to 7", null, () -> u.storm(7, 7));
        due.argument("from 7 to 6", () -> u.storm(7, 6));
        due.argument("from 0 to 1001", () -> u.storm(0, 1001));
        due.argument("from 1000 to 999", () -> u.storm(1000, 999));
    }

    private static void inPlaceOfTheOneBefore(Due due) {
        due.sentence(0, "in place of the one before.");
        Cablecourt x = atWork(0);
        x.storm(0, 1000);
        x.storm(1, 1);
        due.is("a shorter one", workedIn(x, 2), 1);
        x.storm(2, 3);
        x.storm(5, 5);
        due.is("a later one: none in the hours 2 and 3", workedIn(x, 2), 3);
        x.storm(4, 5);
        due.is("one more in the hour 4", workedIn(x, 1), 0);
        x.storm(0, 0);
        due.is("it ends by one that is over", workedIn(x, 1), 1);
        Cablecourt y = atWork(0);
        y.storm(3, 5);
        y.storm(0, 1);
        due.is("not both of them", workedIn(y, 7), 0b1111100);
        Cablecourt z = atWork(0);
        z.storm(0, 3);
        z.storm(3, 5);
        due.is("nor what is in both", workedIn(z, 8), 0b11000111);
    }

    private static void hoursThatAreOver(Due due) {
        Cablecourt x = atWork(10);
        x.storm(0, 9);
        due.is("up to the hour before", workedIn(x, 1), 1);
        x.storm(0, 11);
        due.is("up to this hour", workedIn(x, 2), 2);
        x.storm(14, 14);
        due.is("from the next hour on", workedIn(x, 2), 1);
    }

    private static void fromAndTo(Due due) {
        due.sentence(9, "Throws `IllegalArgumentException` if from or to is out of range");
        Cablecourt x = atWork(0);
        for (int from : Due.outside(0, 1000)) {
            due.argument("from " + from + " to itself", () -> x.storm(from, from));
            due.argument("from " + from + " to 1000", () -> x.storm(from, 1000));
        }
        for (int from = 0; from <= 1000; from += 250) {
            int least = from;
            for (int to : Due.outside(from, 1000)) {
                due.argument("from " + from + " to " + to, () -> x.storm(least, to));
            }
        }
        due.is("no storm is told", workedIn(x, 5), 31);
    }

    private static void refused(Due due) {
        Cablecourt x = atWork(0);
        x.storm(1, 2);
        due.argument("from 0 to 1001", () -> x.storm(0, 1001));
        due.argument("from 3 to 2", () -> x.storm(3, 2));
        due.argument("from -1 to 4", () -> x.storm(-1, 4));
        due.is("the one before stays", workedIn(x, 7), 0b1111001);
    }
}
