import java.util.ArrayList;
import java.util.Arrays;
import java.util.Collections;
import java.util.List;

/**
 * The document once more, written as differently from the program as it can be: every strand has its
 * owner, every way is listed and sorted, and every hour is led from the beginning.
 */
final class PlainClub {
    private static final class Cable {
        int low;
        int high;
        int[] owners;
        int cutHour = -1;
    }

    private static final class Way implements Comparable<Way> {
        final List<Integer> cables = new ArrayList<>();
        int foreign;
        int length;

        @Override
        public int compareTo(Way o) {
            if (foreign != o.foreign) {
                return Integer.compare(foreign, o.foreign);
            }
            if (length != o.length) {
                return Integer.compare(length, o.length);
            }
            for (int i = 0; i < Math.min(cables.size(), o.cables.size()); i++) {
                int c = cables.get(i).compareTo(o.cables.get(i));
                if (c != 0) {
                    return c;
                }
            }
            return 0;
        }
    }

    private final List<Cable> cables = new ArrayList<>();
    private final List<int[]> demands = new ArrayList<>(); // member, from, to, strands
    private final List<Integer> ways = new ArrayList<>();
    private final List<Integer> lents = new ArrayList<>();
    private final List<int[]> cuts = new ArrayList<>(); // cable, spot, worked
    private final List<int[]> ships = new ArrayList<>(); // place, speed, store, cut
    private final long[][] owed = new long[6][6];
    private final long[][] got = new long[6][6];
    private final long[] accounts = new long[7];
    private boolean[][] taken;
    private long spentInAll;
    private int hour;
    private int stormFrom = 2000;
    private int stormTo = 2000;

    private static void index(boolean good) {
        if (!good) {
            throw new IndexOutOfBoundsException();
        }
    }

    private static void argument(boolean good) {
        if (!good) {
            throw new IllegalArgumentException();
        }
    }

    private static void state(boolean good) {
        if (!good) {
            throw new IllegalStateException();
        }
    }

    private static boolean within(int x, int least, int most) {
        return least <= x && x <= most;
    }

    private static void six(int x) {
        index(within(x, 0, 5));
    }

    private static void of(int x, List<?> list) {
        index(x >= 0 && x < list.size());
    }

    int cable(int landing, int other, int strands, int member) {
        six(landing);
        six(other);
        six(member);
        argument(landing != other && within(strands, 1, 8));
        state(cables.size() < 10);
        Cable c = new Cable();
        c.low = Math.min(landing, other);
        c.high = Math.max(landing, other);
        c.owners = new int[strands];
        Arrays.fill(c.owners, member);
        cables.add(c);
        return cables.size() - 1;
    }

    int demand(int member, int landing, int other, int strands) {
        six(landing);
        six(other);
        six(member);
        argument(landing != other && within(strands, 1, 4));
        state(demands.size() < 10);
        demands.add(new int[] {member, landing, other, strands});
        ways.add(-1);
        lents.add(0);
        return demands.size() - 1;
    }

    int sell(int cable, int member, int other, int strands, int price) {
        of(cable, cables);
        six(member);
        six(other);
        argument(member != other && within(strands, 1, 8) && within(price, 0, 100000));
        state(owned(cable, member) >= strands);
        int[] owners = cables.get(cable).owners;
        for (int i = 0, left = strands; i < owners.length && left > 0; i++) {
            if (owners[i] == member) {
                owners[i] = other;
                left--;
            }
        }
        Arrays.sort(owners);
        accounts[member] += price;
        accounts[other] -= price;
        got[member][other] += price;
        return owned(cable, other);
    }

    int cut(int cable, int place) {
        of(cable, cables);
        Cable c = cables.get(cable);
        argument(within(place, 0, 200 * (c.high - c.low)));
        state(c.cutHour < 0 && cuts.size() < 16);
        c.cutHour = hour;
        cuts.add(new int[] {cable, 200 * c.low + place, 0});
        return cuts.size() - 1;
    }

    int ship(int landing, int speed, int store) {
        six(landing);
        argument(within(speed, 10, 200) && within(store, 0, 10));
        state(ships.size() < 3);
        ships.add(new int[] {200 * landing, speed, store, -1});
        return ships.size() - 1;
    }

    int send(int ship, int cut) {
        of(ship, ships);
        if (cut != -1) {
            of(cut, cuts);
            state(cuts.get(cut)[2] < 5);
            for (int[] s : ships) {
                state(s[3] != cut);
            }
        }
        int before = ships.get(ship)[3];
        ships.get(ship)[3] = cut;
        return before;
    }

    int fill(int ship, int store) {
        of(ship, ships);
        argument(within(store, 0, 10));
        int[] s = ships.get(ship);
        state(s[3] == -1 && List.of(0, 200, 400, 600, 800, 1000).contains(s[0]));
        int before = s[2];
        s[2] = store;
        return before;
    }

    int storm(int from, int to) {
        argument(within(from, 0, 1000) && within(to, from, 1000));
        stormFrom = from;
        stormTo = to;
        return 0;
    }

    int pass(int hours) {
        argument(within(hours, 1, 24));
        state(hour + hours <= 500);
        for (int i = 0; i < hours; i++) {
            leadAll();
            credit();
            for (int[] s : ships) {
                if (s[3] >= 0) {
                    sail(s);
                }
            }
            hour++;
        }
        return hour;
    }

    private void leadAll() {
        taken = new boolean[cables.size()][8];
        for (int d = 0; d < demands.size(); d++) {
            ways.set(d, -1);
            lents.set(d, 0);
        }
        for (int round = 1; round <= 2; round++) {
            for (int d = 0; d < demands.size(); d++) {
                if (ways.get(d) < 0) {
                    leadOne(d, round);
                }
            }
        }
    }

    private void leadOne(int d, int round) {
        int[] demand = demands.get(d);
        List<Way> found = new ArrayList<>();
        search(demand, demand[1], new ArrayList<>(), new ArrayList<>(List.of(demand[1])), found);
        if (round == 1) {
            found.removeIf(w -> w.foreign > 0);
        }
        if (found.isEmpty()) {
            return;
        }
        Way best = Collections.min(found);
        int bits = 0;
        for (int c : best.cables) {
            bits |= 1 << c;
            for (int strand : strandsFor(c, demand)) {
                taken[c][strand] = true;
                int owner = cables.get(c).owners[strand];
                if (owner != demand[0]) {
                    owed[demand[0]][owner] += 200 * (cables.get(c).high - cables.get(c).low);
                }
            }
        }
        ways.set(d, bits);
        lents.set(d, best.foreign);
    }

    /** The free strands that a demand would take on a cable: its member's first, then by the members' numbers. */
    private List<Integer> strandsFor(int c, int[] demand) {
        int[] owners = cables.get(c).owners;
        List<Integer> free = new ArrayList<>();
        for (int turn = -1; turn < 6; turn++) {
            for (int s = 0; s < owners.length; s++) {
                boolean its = owners[s] == demand[0];
                if (!taken[c][s] && (turn < 0 ? its : !its && owners[s] == turn)) {
                    free.add(s);
                }
            }
        }
        return free.size() < demand[3] ? null : free.subList(0, demand[3]);
    }

    private void search(int[] demand, int here, List<Integer> way, List<Integer> seen, List<Way> found) {
        if (here == demand[2]) {
            Way w = new Way();
            w.cables.addAll(way);
            for (int c : way) {
                w.length += 200 * (cables.get(c).high - cables.get(c).low);
                for (int s : strandsFor(c, demand)) {
                    w.foreign += cables.get(c).owners[s] == demand[0] ? 0 : 1;
                }
            }
            found.add(w);
            return;
        }
        // The highest cable first, so that the order of the ways comes from their sorting alone.
        for (int c = cables.size() - 1; c >= 0; c--) {
            Cable cable = cables.get(c);
            if (cable.low != here && cable.high != here) {
                continue;
            }
            int next = cable.low + cable.high - here;
            if (cable.cutHour < 0 && !seen.contains(next) && strandsFor(c, demand) != null) {
                way.add(c);
                seen.add(next);
                search(demand, next, way, seen, found);
                seen.remove(seen.size() - 1);
                way.remove(way.size() - 1);
            }
        }
    }

    private void credit() {
        int payer = -1;
        for (int c = 0; c < cables.size(); c++) {
            int at = cables.get(c).cutHour;
            if (at >= 0 && (payer < 0 || at < cables.get(payer).cutHour)) {
                payer = c;
            }
        }
        for (int d = 0; d < demands.size(); d++) {
            if (ways.get(d) < 0) {
                int sum = 5 * demands.get(d)[3];
                accounts[demands.get(d)[0]] += sum;
                if (payer < 0) {
                    accounts[6] -= sum;
                } else {
                    ownersPay(payer, sum);
                }
            }
        }
    }

    private void ownersPay(int c, int sum) {
        int[] owners = cables.get(c).owners;
        int left = sum;
        for (int m = 5; m >= 0; m--) {
            int part = sum * owned(c, m) / owners.length;
            accounts[m] -= part;
            left -= part;
        }
        accounts[owners[0]] -= left;
    }

    private void sail(int[] s) {
        int[] cut = cuts.get(s[3]);
        spentInAll += 20;
        ownersPay(cut[0], 20);
        int far = cut[1] - s[0];
        if (far != 0) {
            s[0] += Math.abs(far) <= s[1] ? far : far < 0 ? -s[1] : s[1];
            return;
        }
        boolean storm = hour >= stormFrom && hour <= stormTo;
        if (!storm && s[2] > 0) {
            cut[2]++;
            if (cut[2] == 5) {
                s[2]--;
                s[3] = -1;
                cables.get(cut[0]).cutHour = -1;
            }
        }
    }

    int owned(int cable, int member) {
        of(cable, cables);
        six(member);
        int n = 0;
        for (int owner : cables.get(cable).owners) {
            n += owner == member ? 1 : 0;
        }
        return n;
    }

    boolean isWhole(int cable) {
        of(cable, cables);
        return cables.get(cable).cutHour < 0;
    }

    int way(int demand) {
        of(demand, demands);
        return ways.get(demand);
    }

    int lent(int demand) {
        of(demand, demands);
        return lents.get(demand);
    }

    int owes(int member, int other) {
        six(member);
        six(other);
        return (int) owed[member][other];
    }

    int account(int member) {
        index(within(member, -1, 5));
        return (int) accounts[member < 0 ? 6 : member];
    }

    int spent() {
        return (int) spentInAll;
    }

    int sold(int member, int other) {
        six(member);
        six(other);
        return (int) got[member][other];
    }

    int place(int ship) {
        of(ship, ships);
        return ships.get(ship)[0];
    }

    int worked(int cut) {
        of(cut, cuts);
        return cuts.get(cut)[2];
    }

    int seal() {
        int seal = 0;
        for (int pair = 0; pair < 36; pair++) {
            if (pair / 6 != pair % 6) {
                seal = Integer.rotateLeft(seal, 3) + (int) (31 * owed[pair / 6][pair % 6]);
            }
        }
        return seal;
    }
}
