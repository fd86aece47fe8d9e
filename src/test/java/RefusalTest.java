import java.util.ArrayList;
import java.util.List;
import java.util.function.Consumer;

/**
 * What the Terms tell of exceptions: which one is thrown, of several that are due, and that a call
 * that throws changes nothing. Each call is made on an object of its own in each of some states; where
 * it is refused, all that the object answers later is as if the call had not been made.
 */
public final class RefusalTest {
    private static final int NONE = Cablecourt.NONE;
    private static final Class<? extends RuntimeException> INDEX = IndexOutOfBoundsException.class;
    private static final Class<? extends RuntimeException> ARGUMENT = IllegalArgumentException.class;
    private static final Class<? extends RuntimeException> STATE = IllegalStateException.class;
    private static final int[] NUMBERS = {Integer.MIN_VALUE, -2, -1, 0, 1, 2, 3, 9, 10, 15, 16, Integer.MAX_VALUE};
    private static final int[] FEW = {-1, 0, 2, 5, 6};

    /** Of the ships it tells to which cut each is sent; of the calls it leaves more than four hundred. */
    private record State(String name, int cables, int demands, int cuts, int[] sentTo, int hour, Consumer<Cablecourt> setup) {
        Cablecourt made() {
            Cablecourt x = new Cablecourt();
            setup.accept(x);
            return x;
        }
    }

    private final Due due;
    private final State state;
    private final Cablecourt asked;
    private final String undisturbed;
    private int refused;

    private RefusalTest(Due due, State state) {
        this.due = due;
        this.state = state;
        this.asked = state.made();
        this.undisturbed = trail(state.made());
    }

    public static void main(String[] args) {
        Due due = new Due("RefusalTest");
        List<State> states = new ArrayList<>();
        states.add(new State("new", 0, 0, 0, new int[0], 0, x -> { }));
        states.add(new State("some", 3, 2, 2, new int[] {0, NONE}, 10, RefusalTest::some));
        states.add(new State("mended", 1, 1, 1, new int[] {NONE, NONE, NONE}, 500, RefusalTest::mended));
        states.add(new State("cut", 10, 10, 10, new int[] {9, 0, 5}, 479, RefusalTest::allCut));
        states.add(new State("full", 10, 10, 16, new int[] {NONE, NONE, NONE}, 80, RefusalTest::full));
        for (State state : states) {
            due.sentence(0, "If several apply, the one that is named first in the throws clause is thrown; a call that throws changes nothing.");
            RefusalTest test = new RefusalTest(due, state);
            test.laysAndTells();
            test.sales();
            test.cutsAndShips();
            test.sendsAndFills();
            test.stormsAndHours();
            test.questions();
            due.is(state.name + ": some were refused", test.refused > 500, true);
        }
        named(due);
        due.end();
    }

    // ---- the states

    /** A ship in a storm at its cut, another one beside a landing, a mended cut, and two owners of a cable. */
    private static void some(Cablecourt x) {
        x.cable(0, 1, 3, 0);
        x.cable(5, 0, 8, 5);
        x.cable(1, 5, 4, 2);
        x.sell(0, 0, 5, 1, 70);
        x.demand(2, 0, 5, 2);
        x.demand(0, 1, 0, 3);
        x.ship(0, 100, 2);
        x.ship(1, 30, 1);
        x.cut(0, 100);
        x.cut(1, 230);
        x.send(1, 1);
        x.pass(6);
        x.send(0, 0);
        x.pass(2);
        x.storm(8, 11);
        x.pass(2);
    }

    private static void mended(Cablecourt x) {
        x.cable(2, 3, 1, 1);
        x.demand(4, 3, 2, 1);
        x.cut(0, 0);
        for (int s = 0; s < 3; s++) {
            x.ship(2, 10, 10 - s);
        }
        x.send(0, 0);
        Due.passHours(x, 500);
    }

    private static void allCut(Cablecourt x) {
        for (int c = 0; c < 10; c++) {
            x.cable(c % 6, (c + 1) % 6, 1 + c % 8, c % 6);
            x.demand(c % 6, (c + 3) % 6, c % 6, 1 + c % 4);
        }
        Due.passHours(x, 479);
        for (int c = 0; c < 10; c++) {
            x.cut(c, 200);
        }
        x.ship(5, 200, 0);
        x.ship(0, 10, 10);
        x.ship(3, 10, 5);
        x.send(0, 9);
        x.send(1, 0);
        x.send(2, 5);
    }

    private static void full(Cablecourt x) {
        for (int c = 0; c < 10; c++) {
            x.cable(0, 1, 8, c % 6);
            x.demand(c % 6, 0, 1, 4);
        }
        for (int s = 0; s < 3; s++) {
            x.ship(0, 10, 6);
        }
        for (int k = 0; k < 16; k++) {
            x.cut(k % 10, 0);
            x.send(k % 3, k);
            x.pass(5);
        }
    }

    // ---- what an object answers later

    private interface Answer {
        Object get();
    }

    private static String told(Answer a) {
        try {
            return a.get() + " ";
        } catch (RuntimeException e) {
            return e.getClass().getSimpleName() + " ";
        }
    }

    private void questionsOf(Cablecourt x, StringBuilder t) {
        t.append(x.seal()).append(' ').append(x.spent()).append(' ').append(x.owesAnew(0, 5)).append(" accounts ");
        for (int m = NONE; m <= 5; m++) {
            t.append(x.account(m)).append(' ');
            for (int o = 0; o <= 5 && m >= 0; o++) {
                t.append(o == m ? "" : x.sold(m, o) + " ");
            }
        }
        for (int c = 0; c <= state.cables; c++) {
            int cable = c;
            t.append(told(() -> x.isWhole(cable)));
            for (int m = 0; m <= 5 && c < state.cables; m++) {
                t.append(x.owned(c, m));
            }
        }
        t.append(" demands ");
        for (int d = 0; d <= state.demands; d++) {
            int demand = d;
            t.append(told(() -> x.way(demand))).append(d < state.demands ? x.lent(d) + " " : "");
        }
        t.append(" cuts ");
        for (int k = 0; k <= state.cuts; k++) {
            int cut = k;
            t.append(told(() -> x.worked(cut)));
        }
        t.append(" ships ");
        for (int s = 0; s <= state.sentTo.length; s++) {
            int ship = s;
            t.append(told(() -> x.place(ship)));
        }
    }

    /** The answers of all questions, then those of calls that show the stores, the storm, the hour and all numbers. */
    private String trail(Cablecourt x) {
        StringBuilder t = new StringBuilder();
        questionsOf(x, t);
        t.append(" then ");
        for (int s = 0; s < state.sentTo.length; s++) {
            int ship = s;
            t.append(told(() -> x.send(ship, NONE)));
            t.append(told(() -> x.fill(ship, 3)));
            t.append(told(() -> x.fill(ship, 4)));
            t.append(told(() -> x.send(ship, state.sentTo[ship])));
        }
        t.append(told(() -> x.pass(3)));
        t.append(told(() -> x.cable(0, 5, 1, 3)));
        t.append(told(() -> x.demand(3, 0, 5, 1)));
        t.append(told(() -> x.ship(4, 10, 1)));
        t.append(told(() -> x.cut(0, 200)));
        t.append(told(() -> x.pass(1)));
        questionsOf(x, t);
        return t.toString();
    }

    // ---- one call: what is due, and what it leaves behind

    private static Class<? extends RuntimeException> first(boolean index, boolean argument, boolean state) {
        return index ? INDEX : argument ? ARGUMENT : state ? STATE : null;
    }

    private void call(String call, Class<? extends RuntimeException> want, Consumer<Cablecourt> made) {
        Cablecourt x = state.made();
        due.refuses(state.name + ": " + call, want, () -> made.accept(x));
        if (want != null) {
            refused++;
            due.is(state.name + ": " + call + " changes nothing", trail(x).equals(undisturbed), true);
        }
    }

    private static boolean beyond(int value, int least, int most) {
        return value < least || value > most;
    }

    private static boolean none(int number, int count) {
        return beyond(number, 0, count - 1);
    }

    private void laysAndTells() {
        int[] strands = {0, 1, 4, 5, 8, 9};
        for (int a : FEW) {
            for (int b : FEW) {
                for (int m : FEW) {
                    for (int n : strands) {
                        boolean index = none(a, 6) || none(b, 6) || none(m, 6);
                        String args = "(" + a + ", " + b + ", " + m + ", " + n + ")";
                        call("cable and member last" + args, first(index, a == b || beyond(n, 1, 8), state.cables == 10),
                            x -> x.cable(a, b, n, m));
                        call("demand and member last" + args, first(index, a == b || beyond(n, 1, 4), state.demands == 10),
                            x -> x.demand(m, a, b, n));
                    }
                }
            }
        }
    }

    private void sales() {
        int[] cables = {-1, 0, 1, 9, 10};
        int[] strands = {0, 1, 3, 8, 9};
        int[] prices = {-1, 0, 100000, 100001};
        for (int c : cables) {
            for (int m : FEW) {
                for (int o : FEW) {
                    for (int n : strands) {
                        for (int price : prices) {
                            boolean index = none(c, state.cables) || none(m, 6) || none(o, 6);
                            boolean argument = m == o || beyond(n, 1, 8) || beyond(price, 0, 100000);
                            boolean fewer = !index && asked.owned(c, m) < n;
                            call("sell(" + c + ", " + m + ", " + o + ", " + n + ", " + price + ")",
                                first(index, argument, fewer), x -> x.sell(c, m, o, n, price));
                        }
                    }
                }
            }
        }
    }

    private int length(int cable) {
        int[] some = {200, 1000, 800};
        return state.name.equals("some") ? some[cable] : state.name.equals("cut") && cable % 6 == 5 ? 1000 : 200;
    }

    private void cutsAndShips() {
        int[] places = {Integer.MIN_VALUE, -1, 0, 200, 201, 800, 801, 1000, 1001, Integer.MAX_VALUE};
        for (int c : NUMBERS) {
            for (int place : places) {
                boolean index = none(c, state.cables);
                boolean argument = !index && beyond(place, 0, length(c));
                boolean stateDue = !index && (!asked.isWhole(c) || state.cuts == 16);
                call("cut(" + c + ", " + place + ")", first(index, argument, stateDue), x -> x.cut(c, place));
            }
        }
        int[] speeds = {9, 10, 200, 201};
        int[] stores = {-1, 0, 10, 11};
        for (int p : FEW) {
            for (int speed : speeds) {
                for (int store : stores) {
                    call("ship(" + p + ", " + speed + ", " + store + ")",
                        first(none(p, 6), beyond(speed, 10, 200) || beyond(store, 0, 10), state.sentTo.length == 3),
                        x -> x.ship(p, speed, store));
                }
            }
        }
    }

    private boolean isSentTo(int cut) {
        for (int sentTo : state.sentTo) {
            if (sentTo == cut) {
                return true;
            }
        }
        return false;
    }

    private void sendsAndFills() {
        for (int s : NUMBERS) {
            for (int k : NUMBERS) {
                boolean index = none(s, state.sentTo.length) || beyond(k, NONE, state.cuts - 1);
                boolean stateDue = !index && k != NONE && (asked.worked(k) == 5 || isSentTo(k));
                call("send(" + s + ", " + k + ")", first(index, false, stateDue), x -> x.send(s, k));
            }
            for (int store : NUMBERS) {
                boolean index = none(s, state.sentTo.length);
                boolean stateDue = !index && (state.sentTo[s] != NONE || asked.place(s) % 200 != 0);
                call("fill(" + s + ", " + store + ")", first(index, beyond(store, 0, 10), stateDue), x -> x.fill(s, store));
            }
        }
    }

    private void stormsAndHours() {
        int[] hours = {Integer.MIN_VALUE, -1, 0, 1, 8, 13, 999, 1000, 1001, Integer.MAX_VALUE};
        for (int from : hours) {
            for (int to : hours) {
                call("storm(" + from + ", " + to + ")", first(false, beyond(from, 0, 1000) || beyond(to, from, 1000), false),
                    x -> x.storm(from, to));
            }
        }
        int[] passes = {Integer.MIN_VALUE, -1, 0, 1, 21, 22, 24, 25, 500, Integer.MAX_VALUE};
        for (int n : passes) {
            call("pass(" + n + ")", first(false, beyond(n, 1, 24), state.hour + n > 500), x -> x.pass(n));
        }
    }

    private void questions() {
        for (int a : NUMBERS) {
            call("isWhole(" + a + ")", first(none(a, state.cables), false, false), x -> x.isWhole(a));
            call("way(" + a + ")", first(none(a, state.demands), false, false), x -> x.way(a));
            call("lent(" + a + ")", first(none(a, state.demands), false, false), x -> x.lent(a));
            call("place(" + a + ")", first(none(a, state.sentTo.length), false, false), x -> x.place(a));
            call("worked(" + a + ")", first(none(a, state.cuts), false, false), x -> x.worked(a));
            call("account(" + a + ")", first(beyond(a, NONE, 5), false, false), x -> x.account(a));
            for (int m : FEW) {
                Class<? extends RuntimeException> members = first(none(a, 6) || none(m, 6), false, false);
                call("owned(" + a + ", " + m + ")", first(none(a, state.cables) || none(m, 6), false, false), x -> x.owned(a, m));
                call("owes(" + a + ", " + m + ")", members, x -> x.owes(a, m));
                call("owesAnew(" + a + ", " + m + ")", members, x -> x.owesAnew(a, m));
                call("sold(" + a + ", " + m + ")", members, x -> x.sold(a, m));
            }
        }
    }

    /** The exceptions of the document, each by one call that nothing else is wrong with. */
    private static void named(Due due) {
        Cablecourt x = new Cablecourt();
        x.cable(0, 1, 1, 0);
        due.sentence(0, "IndexOutOfBoundsException: there is no such landing, member, cable, demand, cut or ship.");
        due.index("landing", () -> x.cable(6, 1, 1, 0));
        due.index("member", () -> x.cable(0, 1, 1, 6));
        due.index("cable", () -> x.cut(1, 0));
        due.index("demand", () -> x.way(0));
        due.index("cut", () -> x.worked(0));
        due.index("ship", () -> x.place(0));
        due.sentence(0, "IllegalArgumentException: another argument is out of its range.");
        due.argument("strands", () -> x.cable(0, 1, 9, 0));
        due.argument("place", () -> x.cut(0, 201));
        due.argument("hours", () -> x.pass(25));
        due.sentence(0, "IllegalStateException: as the method tells.");
        x.cut(0, 200);
        due.state("not whole", () -> x.cut(0, 200));
        due.state("owns fewer", () -> x.sell(0, 1, 0, 1, 0));
    }
}
