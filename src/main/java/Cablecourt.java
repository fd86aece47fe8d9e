import java.util.ArrayList;

/**
 * A sea cable club: cables with strands and owners, demands that are led over them hour by hour,
 * cuts, ships that mend them, loans, accounts and sales.
 */
public final class Cablecourt {
    public static final int NONE = -1;

    private static final int LANDINGS = 6;
    private static final int MEMBERS = 6;
    private static final int STEP = 200;
    private static final int MOST_CABLES = 10;
    private static final int MOST_CABLE_STRANDS = 8;
    private static final int MOST_DEMANDS = 10;
    private static final int MOST_DEMAND_STRANDS = 4;
    private static final int MOST_CUTS = 16;
    private static final int MOST_SHIPS = 3;
    private static final int MOST_STORE = 10;
    private static final int LEAST_SPEED = 10;
    private static final int MOST_SPEED = 200;
    private static final int MOST_PRICE = 100000;
    private static final int LAST_STORM_HOUR = 1000;
    private static final int MOST_HOURS = 24;
    private static final int LAST_HOUR = 500;
    private static final int MOST_CALLS = 512;
    private static final int CREDIT = 5;
    private static final int SHIP_HOUR = 20;
    private static final int WORK = 5;
    private static final int MOST_LENT = MOST_DEMAND_STRANDS * (LANDINGS - 1);
    private static final int BEYOND_ANY_LENGTH = STEP * LANDINGS * LANDINGS;

    private final Net live = new Net();
    private final Net anew = new Net();
    private final Cut[] cuts = new Cut[MOST_CUTS];
    private final Ship[] ships = new Ship[MOST_SHIPS];
    private final ArrayList<Sale> sales = new ArrayList<>();
    private final int[][] owed = new int[MEMBERS][MEMBERS];
    private final int[][] got = new int[MEMBERS][MEMBERS];
    private final int[] accounts = new int[MEMBERS];
    private int clubAccount;
    private int paidForShips;
    private int cutCount;
    private int shipCount;
    private int hour;
    private int stormFrom;
    private int stormTo;

    public Cablecourt() {
        stormFrom = NONE;
        stormTo = NONE;
    }

    public int cable(int landing, int other, int strands, int member)
            throws IndexOutOfBoundsException, IllegalArgumentException, IllegalStateException {
        checkLanding(landing);
        checkLanding(other);
        checkMember(member);
        checkUnlike(landing, other);
        checkRange(strands, 1, MOST_CABLE_STRANDS);
        checkRoom(live.cableCount, MOST_CABLES);
        live.lay(new Cable(landing, other, strands, member, hour));
        return live.cableCount - 1;
    }

    public int demand(int member, int landing, int other, int strands)
            throws IndexOutOfBoundsException, IllegalArgumentException, IllegalStateException {
        checkMember(member);
        checkLanding(landing);
        checkLanding(other);
        checkUnlike(landing, other);
        checkRange(strands, 1, MOST_DEMAND_STRANDS);
        checkRoom(live.demandCount, MOST_DEMANDS);
        live.tell(new Demand(member, landing, other, strands, hour));
        return live.demandCount - 1;
    }

    public int sell(int cable, int member, int other, int strands, int price)
            throws IndexOutOfBoundsException, IllegalArgumentException, IllegalStateException {
        checkNumber(cable, live.cableCount);
        checkMember(member);
        checkMember(other);
        checkUnlike(member, other);
        checkRange(strands, 1, MOST_CABLE_STRANDS);
        checkRange(price, 0, MOST_PRICE);
        if (live.owned[cable][member] < strands) {
            throw new IllegalStateException("the member owns fewer strands");
        }
        Sale sale = new Sale(cable, member, other, strands, hour);
        // An object's calls are bounded by the document, and so is what is kept for owesAnew.
        if (sales.size() < MOST_CALLS) {
            sales.add(sale);
        }
        live.hand(sale);
        accounts[member] += price;
        accounts[other] -= price;
        got[member][other] += price;
        return live.owned[cable][other];
    }

    public int cut(int cable, int place)
            throws IndexOutOfBoundsException, IllegalArgumentException, IllegalStateException {
        checkNumber(cable, live.cableCount);
        Cable torn = live.cables[cable];
        checkRange(place, 0, torn.length);
        if (!live.whole[cable]) {
            throw new IllegalStateException("the cable is not whole");
        }
        checkRoom(cutCount, MOST_CUTS);
        cuts[cutCount] = new Cut(cable, torn.lowPlace + place, hour);
        cutCount++;
        live.sever(cable);
        return cutCount - 1;
    }

    public int ship(int landing, int speed, int store)
            throws IndexOutOfBoundsException, IllegalArgumentException, IllegalStateException {
        checkLanding(landing);
        checkRange(speed, LEAST_SPEED, MOST_SPEED);
        checkRange(store, 0, MOST_STORE);
        checkRoom(shipCount, MOST_SHIPS);
        ships[shipCount] = new Ship(landing * STEP, speed, store);
        shipCount++;
        return shipCount - 1;
    }

    public int send(int ship, int cut) throws IndexOutOfBoundsException, IllegalStateException {
        checkNumber(ship, shipCount);
        if (cut != NONE) {
            checkNumber(cut, cutCount);
            checkOpenForShip(cut);
        }
        int before = ships[ship].cut;
        ships[ship].cut = cut;
        return before;
    }

    public int fill(int ship, int store)
            throws IndexOutOfBoundsException, IllegalArgumentException, IllegalStateException {
        checkNumber(ship, shipCount);
        checkRange(store, 0, MOST_STORE);
        Ship filled = ships[ship];
        if (filled.cut != NONE || filled.place % STEP != 0) {
            throw new IllegalStateException("the ship is sent, or not at a landing");
        }
        int before = filled.store;
        filled.store = store;
        return before;
    }

    public void storm(int from, int to) throws IllegalArgumentException {
        checkRange(from, 0, LAST_STORM_HOUR);
        checkRange(to, from, LAST_STORM_HOUR);
        stormFrom = from;
        stormTo = to;
    }

    public int pass(int hours) throws IllegalArgumentException, IllegalStateException {
        checkRange(hours, 1, MOST_HOURS);
        if (hour + hours > LAST_HOUR) {
            throw new IllegalStateException("the hours are over");
        }
        for (int i = 0; i < hours; i++) {
            passHour();
        }
        return hour;
    }

    // ---- questions

    public int owned(int cable, int member) throws IndexOutOfBoundsException {
        checkNumber(cable, live.cableCount);
        checkMember(member);
        return live.owned[cable][member];
    }

    public boolean isWhole(int cable) throws IndexOutOfBoundsException {
        checkNumber(cable, live.cableCount);
        return live.whole[cable];
    }

    public int way(int demand) throws IndexOutOfBoundsException {
        checkNumber(demand, live.demandCount);
        return live.ways[demand];
    }

    public int lent(int demand) throws IndexOutOfBoundsException {
        checkNumber(demand, live.demandCount);
        return live.lents[demand];
    }

    public int owes(int member, int other) throws IndexOutOfBoundsException {
        checkMember(member);
        checkMember(other);
        return owed[member][other];
    }

    public int owesAnew(int member, int other) throws IndexOutOfBoundsException {
        checkMember(member);
        checkMember(other);
        anew.clear();
        int sum = 0;
        int salesTold = 0;
        for (int h = 0; h < hour; h++) {
            retellNet(h);
            salesTold = retellSales(h, salesTold);
            anew.lead();
            sum += anew.loans[member][other];
        }
        return sum;
    }

    public int account(int member) throws IndexOutOfBoundsException {
        if (member == NONE) {
            return clubAccount;
        }
        checkMember(member);
        return accounts[member];
    }

    public int spent() {
        return paidForShips;
    }

    public int sold(int member, int other) throws IndexOutOfBoundsException {
        checkMember(member);
        checkMember(other);
        return got[member][other];
    }

    public int place(int ship) throws IndexOutOfBoundsException {
        checkNumber(ship, shipCount);
        return ships[ship].place;
    }

    public int worked(int cut) throws IndexOutOfBoundsException {
        checkNumber(cut, cutCount);
        return cuts[cut].hoursWorked;
    }

    public int seal() {
        int seal = 0;
        for (int member = 0; member < MEMBERS; member++) {
            for (int other = 0; other < MEMBERS; other++) {
                if (member != other) {
                    seal = ((seal << 3) ^ (seal >>> 29)) + owed[member][other] * 31;
                }
            }
        }
        return seal;
    }

    // ---- an hour

    private void passHour() {
        live.lead();
        addLoans();
        payCredits();
        for (int s = 0; s < shipCount; s++) {
            runShip(ships[s]);
        }
        hour++;
    }

    private void addLoans() {
        for (int member = 0; member < MEMBERS; member++) {
            for (int other = 0; other < MEMBERS; other++) {
                owed[member][other] += live.loans[member][other];
            }
        }
    }

    private void payCredits() {
        int blamed = cableCutFirst();
        for (int d = 0; d < live.demandCount; d++) {
            if (live.ways[d] == NONE) {
                Demand demand = live.demands[d];
                int credit = CREDIT * demand.strands;
                accounts[demand.member] += credit;
                if (blamed == NONE) {
                    clubAccount -= credit;
                } else {
                    chargeOwners(blamed, credit);
                }
            }
        }
    }

    /** The cable that pays for credits: of those that are cut the one cut in the earliest hour. */
    private int cableCutFirst() {
        int cable = NONE;
        int told = 0;
        for (int k = 0; k < cutCount; k++) {
            Cut cut = cuts[k];
            if (cut.wholeFrom == NONE
                    && (cable == NONE || cut.told < told || (cut.told == told && cut.cable < cable))) {
                cable = cut.cable;
                told = cut.told;
            }
        }
        return cable;
    }

    private void chargeOwners(int cable, int sum) {
        int all = live.cables[cable].strands;
        if (all <= 0) {
            return;
        }
        int left = sum;
        int lowest = NONE;
        for (int member = 0; member < MEMBERS; member++) {
            int strands = live.owned[cable][member];
            int part = sum * strands / all;
            accounts[member] -= part;
            left -= part;
            if (lowest == NONE && strands > 0) {
                lowest = member;
            }
        }
        if (lowest != NONE) {
            accounts[lowest] -= left;
        }
    }

    private void runShip(Ship ship) {
        if (ship.cut == NONE) {
            return;
        }
        Cut cut = cuts[ship.cut];
        chargeOwners(cut.cable, SHIP_HOUR);
        paidForShips += SHIP_HOUR;
        if (ship.place != cut.spot) {
            ship.sailTo(cut.spot);
        } else if (!isStorm() && ship.store > 0) {
            work(ship, cut);
        }
    }

    private void work(Ship ship, Cut cut) {
        cut.hoursWorked++;
        if (cut.hoursWorked >= WORK) {
            cut.wholeFrom = hour + 1;
            live.mend(cut.cable);
            ship.store--;
            ship.cut = NONE;
        }
    }

    private boolean isStorm() {
        return stormFrom <= hour && hour <= stormTo;
    }

    // ---- the hours told again, for owesAnew

    private void retellNet(int h) {
        for (int c = anew.cableCount; c < live.cableCount && live.cables[c].laid <= h; c++) {
            anew.lay(live.cables[c]);
        }
        for (int d = anew.demandCount; d < live.demandCount && live.demands[d].told <= h; d++) {
            anew.tell(live.demands[d]);
        }
        // A cable may be mended and cut again before one hour: its older cut has the lower number.
        for (int k = 0; k < cutCount; k++) {
            if (cuts[k].wholeFrom == h) {
                anew.mend(cuts[k].cable);
            }
            if (cuts[k].told == h) {
                anew.sever(cuts[k].cable);
            }
        }
    }

    private int retellSales(int h, int told) {
        int next = told;
        while (next < sales.size() && sales.get(next).told <= h) {
            anew.hand(sales.get(next));
            next++;
        }
        return next;
    }

    // ---- checks of arguments

    private static void checkLanding(int landing) {
        if (landing < 0 || landing >= LANDINGS) {
            throw new IndexOutOfBoundsException("no such landing");
        }
    }

    private static void checkMember(int member) {
        if (member < 0 || member >= MEMBERS) {
            throw new IndexOutOfBoundsException("no such member");
        }
    }

    private static void checkNumber(int number, int count) {
        if (number < 0 || number >= count) {
            throw new IndexOutOfBoundsException("no such cable, demand, cut or ship");
        }
    }

    private static void checkUnlike(int one, int other) {
        if (one == other) {
            throw new IllegalArgumentException("both are the same");
        }
    }

    private static void checkRange(int value, int least, int most) {
        if (value < least || value > most) {
            throw new IllegalArgumentException("out of range");
        }
    }

    private static void checkRoom(int count, int most) {
        if (count >= most) {
            throw new IllegalStateException("there are no more");
        }
    }

    private void checkOpenForShip(int cut) {
        if (cuts[cut].wholeFrom != NONE) {
            throw new IllegalStateException("the cut is mended");
        }
        for (int s = 0; s < shipCount; s++) {
            if (ships[s].cut == cut) {
                throw new IllegalStateException("a ship is sent to the cut");
            }
        }
    }

    private static final class Cable {
        final int landing;
        final int other;
        final int strands;
        final int member;
        final int laid;
        final int length;
        final int lowPlace;

        Cable(int landing, int other, int strands, int member, int laid) {
            this.landing = landing;
            this.other = other;
            this.strands = strands;
            this.member = member;
            this.laid = laid;
            this.length = Math.abs(landing - other) * STEP;
            this.lowPlace = Math.min(landing, other) * STEP;
        }

        /** The landing at the other end, or NONE if the cable does not end here. */
        int across(int here) {
            if (here == landing) {
                return other;
            }
            return here == other ? landing : NONE;
        }
    }

    private static final class Demand {
        final int member;
        final int landing;
        final int other;
        final int strands;
        final int told;

        Demand(int member, int landing, int other, int strands, int told) {
            this.member = member;
            this.landing = landing;
            this.other = other;
            this.strands = strands;
            this.told = told;
        }
    }

    private static final class Sale {
        final int cable;
        final int member;
        final int other;
        final int strands;
        final int told;

        Sale(int cable, int member, int other, int strands, int told) {
            this.cable = cable;
            this.member = member;
            this.other = other;
            this.strands = strands;
            this.told = told;
        }
    }

    private static final class Cut {
        final int cable;
        final int spot;
        final int told;
        int hoursWorked;
        /** The first hour in which the cable is whole again; NONE while the cut is not mended. */
        int wholeFrom;

        Cut(int cable, int spot, int told) {
            this.cable = cable;
            this.spot = spot;
            this.told = told;
            this.wholeFrom = NONE;
        }
    }

    private static final class Ship {
        final int speed;
        int place;
        int store;
        int cut;

        Ship(int place, int speed, int store) {
            this.place = place;
            this.speed = speed;
            this.store = store;
            this.cut = NONE;
        }

        void sailTo(int goal) {
            if (goal > place) {
                place = Math.min(goal, place + speed);
            } else {
                place = Math.max(goal, place - speed);
            }
        }
    }

    /** The cables with their owners, and how the demands are led over them in an hour. */
    private static final class Net {
        final Cable[] cables = new Cable[MOST_CABLES];
        final boolean[] whole = new boolean[MOST_CABLES];
        final int[][] owned = new int[MOST_CABLES][MEMBERS];
        final Demand[] demands = new Demand[MOST_DEMANDS];
        final int[] ways = new int[MOST_DEMANDS];
        final int[] lents = new int[MOST_DEMANDS];
        /** What each member comes to owe each other one in an hour that is led so. */
        final int[][] loans = new int[MEMBERS][MEMBERS];
        int cableCount;
        int demandCount;

        private final int[][] free = new int[MOST_CABLES][MEMBERS];
        /** What the demand in hand would take of other members on each cable; NONE: it can't pass. */
        private final int[] foreign = new int[MOST_CABLES];
        private int goal;
        private int bestWay;
        private int bestLent;
        private int bestLength;
        /** Nothing but what is told changes how an hour is led, so it is found once for all hours between. */
        private boolean stale;

        void clear() {
            cableCount = 0;
            demandCount = 0;
            stale = true;
        }

        void lay(Cable cable) {
            if (cableCount >= MOST_CABLES) {
                return;
            }
            cables[cableCount] = cable;
            whole[cableCount] = true;
            for (int member = 0; member < MEMBERS; member++) {
                owned[cableCount][member] = member == cable.member ? cable.strands : 0;
            }
            cableCount++;
            stale = true;
        }

        void tell(Demand demand) {
            if (demandCount >= MOST_DEMANDS) {
                return;
            }
            demands[demandCount] = demand;
            ways[demandCount] = NONE;
            lents[demandCount] = 0;
            demandCount++;
            stale = true;
        }

        void hand(Sale sale) {
            owned[sale.cable][sale.member] -= sale.strands;
            owned[sale.cable][sale.other] += sale.strands;
            stale = true;
        }

        void sever(int cable) {
            whole[cable] = false;
            stale = true;
        }

        void mend(int cable) {
            whole[cable] = true;
            stale = true;
        }

        void lead() {
            if (!stale) {
                return;
            }
            stale = false;
            freeAll();
            for (int d = 0; d < demandCount; d++) {
                leadOne(d, 0);
            }
            for (int d = 0; d < demandCount; d++) {
                if (ways[d] == NONE) {
                    leadOne(d, MOST_LENT);
                }
            }
        }

        private void freeAll() {
            for (int c = 0; c < cableCount; c++) {
                System.arraycopy(owned[c], 0, free[c], 0, MEMBERS);
            }
            for (int d = 0; d < demandCount; d++) {
                ways[d] = NONE;
                lents[d] = 0;
            }
            for (int member = 0; member < MEMBERS; member++) {
                for (int other = 0; other < MEMBERS; other++) {
                    loans[member][other] = 0;
                }
            }
        }

        /** Leads a demand, if it can be led with at most so many strands of other members. */
        private void leadOne(int d, int mostLent) {
            Demand demand = demands[d];
            for (int c = 0; c < cableCount; c++) {
                foreign[c] = foreignOn(c, demand);
            }
            bestWay = NONE;
            bestLent = mostLent;
            bestLength = BEYOND_ANY_LENGTH;
            goal = demand.other;
            follow(this, 0, demand.landing, 1 << demand.landing, 0, 0, 0);
            if (bestWay != NONE) {
                take(d);
            }
        }

        private int foreignOn(int c, Demand demand) {
            if (!whole[c]) {
                return NONE;
            }
            int sum = 0;
            for (int member = 0; member < MEMBERS; member++) {
                sum += free[c][member];
            }
            if (sum < demand.strands) {
                return NONE;
            }
            return Math.max(0, demand.strands - free[c][demand.member]);
        }

        /**
         * Follows every way on from a landing that may still be better than the best one. The cables
         * are tried by their numbers, so of equal ways the first one found is the one to take.
         */
        private static void follow(Net net, int depth, int here, int seen, int way, int lent, int length) {
            if (here == net.goal) {
                net.bestWay = way;
                net.bestLent = lent;
                net.bestLength = length;
                return;
            }
            if (depth >= LANDINGS - 1) {
                return;
            }
            for (int c = 0; c < net.cableCount; c++) {
                int next = net.cables[c].across(here);
                if (net.foreign[c] != NONE && next != NONE && (seen >> next & 1) == 0) {
                    int lentThen = lent + net.foreign[c];
                    int lengthThen = length + net.cables[c].length;
                    if (net.isBetter(lentThen, lengthThen)) {
                        follow(net, depth + 1, next, seen | 1 << next, way | 1 << c, lentThen, lengthThen);
                    }
                }
            }
        }

        private boolean isBetter(int lent, int length) {
            return lent < bestLent || (lent == bestLent && length < bestLength);
        }

        private void take(int d) {
            Demand demand = demands[d];
            ways[d] = bestWay;
            lents[d] = bestLent;
            for (int c = 0; c < cableCount; c++) {
                if ((bestWay >> c & 1) != 0) {
                    int left = demand.strands - takeFrom(c, demand.member, demand.strands);
                    for (int other = 0; other < MEMBERS; other++) {
                        int taken = takeFrom(c, other, left);
                        left -= taken;
                        loans[demand.member][other] += taken * cables[c].length;
                    }
                }
            }
        }

        /** Takes up to so many free strands of a member on a cable; the answer is how many it took. */
        private int takeFrom(int c, int member, int most) {
            int taken = Math.min(free[c][member], most);
            free[c][member] -= taken;
            return taken;
        }
    }
}
