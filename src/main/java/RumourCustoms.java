import java.util.ArrayList;

/**
 * A customs house for rumours.
 *
 * <p>Carriers bring rumours from town to town by roads with gates, at which a duty is paid.
 */
public final class RumourCustoms {
    private static final int MOST_TOWNS = 10;
    private static final int MOST_HOURS_OF_ROAD = 9;
    private static final int MOST_TARIFF = 20;
    private static final int MOST_SURCHARGE = 30;
    private static final int MOST_STRICTNESS = 9;

    private static final int MOST_RUMOURS = 60;
    private static final int MOST_LENGTH = 30;
    private static final int MOST_PROOFS = 5;
    private static final int MOST_DEPTH = 99;

    private static final int MOST_CARRIERS = 8;
    private static final int MOST_PURSE = 1000000;
    private static final int ROOM_IN_BAG = 6;

    private static final int SEARCH_FROM = 10;
    private static final int FINE_TIMES = 3;
    private static final int MOST_HOURS_OF_PASS = 100;

    private static final int NONE = -1;

    private static final int LAST_OF_ROAD = 6;
    private static final int LAST_OF_RUMOUR = 6;
    private static final int LAST_OF_TOWN = 3;
    private static final int LAST_OF_CARRIER = 5;
    private static final int LAST_OF_COUNT = 10;
    private static final int LAST_OF_WAY = 1;
    private static final int LAST_OF_SPREAD = 2;

    private static final long DIGEST_START = 499;
    private static final long DIGEST_FACTOR = 31;

    private final RoadMap map;
    private final WaySearch ways;
    private final ArrayList<Rumour> rumours;
    private final ArrayList<Carrier> carriers;
    private int townCount;
    private int roadCount;
    private int hour;
    private int proofsBurnt;
    private int dutiesPaid;
    private int finesPaid;
    private int searches;

    /** Creates a land without towns, rumours and carriers, at the hour 0. */
    public RumourCustoms() {
        map = new RoadMap();
        ways = new WaySearch(map);
        rumours = new ArrayList<>();
        carriers = new ArrayList<>();
    }

    // ---- towns and roads

    /** Adds a town and returns its number. */
    public int addTown() throws IllegalStateException {
        if (townCount >= MOST_TOWNS) {
            throw new IllegalStateException("there are 10 towns");
        }
        townCount++;
        return townCount - 1;
    }

    /** Builds a road with its gate and returns the number of roads. */
    public int build(int a, int b, int hours, int tariff, int surcharge, int strictness)
            throws IndexOutOfBoundsException, IllegalArgumentException, IllegalStateException {
        requireTown(a);
        requireTown(b);
        if (a == b) {
            throw new IllegalArgumentException("a road is between two towns");
        }
        requireWithin(hours, 1, MOST_HOURS_OF_ROAD);
        requireWithin(tariff, 0, MOST_TARIFF);
        requireWithin(surcharge, 0, MOST_SURCHARGE);
        requireWithin(strictness, 0, MOST_STRICTNESS);
        if (map.between(a, b) != null) {
            throw new IllegalStateException("there is a road between them");
        }
        map.put(a, b, new Road(hours, tariff, surcharge, strictness));
        roadCount++;
        return roadCount;
    }

    /** Tells of the road between two towns. */
    public int road(int a, int b, int what) throws IndexOutOfBoundsException {
        requireTown(a);
        requireTown(b);
        requireWhat(what, LAST_OF_ROAD);
        Road road = map.between(a, b);
        return road == null ? 0 : road.figure(what);
    }

    // ---- rumours

    /** Makes up a rumour and returns its number. */
    public int makeUp(int town, int length, int proofs)
            throws IndexOutOfBoundsException, IllegalArgumentException, IllegalStateException {
        requireTown(town);
        requireWithin(length, 1, MOST_LENGTH);
        requireWithin(proofs, 0, MOST_PROOFS);
        if (rumours.size() >= MOST_RUMOURS) {
            throw new IllegalStateException("there are 60 rumours");
        }
        int number = rumours.size();
        rumours.add(new Rumour(number, number, length, 0, proofs, town));
        return number;
    }

    /** Tells of a rumour. */
    public int rumour(int rumour, int what) throws IndexOutOfBoundsException {
        Rumour asked = rumourAt(rumour);
        requireWhat(what, LAST_OF_RUMOUR);
        return asked.figure(what);
    }

    /** Tells of a town. */
    public int town(int town, int what) throws IndexOutOfBoundsException {
        requireTown(town);
        requireWhat(what, LAST_OF_TOWN);
        switch (what) {
            case 0:
                return rumoursIn(town);
            case 1:
                return familiesIn(town);
            case 2:
                return deepestIn(town);
            default:
                return carriersIn(town);
        }
    }

    /** Tells which rumour of a family a town has, that of the least depth; -1 if it has none. */
    public int heard(int town, int rumour) throws IndexOutOfBoundsException {
        requireTown(town);
        Rumour least = leastDeepIn(town, rumourAt(rumour).family);
        return least == null ? NONE : least.number;
    }

    // ---- carriers

    /** Adds a carrier and returns the number. */
    public int addCarrier(int town, int purse)
            throws IndexOutOfBoundsException, IllegalArgumentException, IllegalStateException {
        requireTown(town);
        requireWithin(purse, 0, MOST_PURSE);
        if (carriers.size() >= MOST_CARRIERS) {
            throw new IllegalStateException("there are 8 carriers");
        }
        int number = carriers.size();
        carriers.add(new Carrier(number, town, purse));
        return number;
    }

    /** Takes a rumour of the town into the bag and returns how many are in it. */
    public int take(int carrier, int rumour) throws IndexOutOfBoundsException, IllegalStateException {
        Carrier taker = carrierAt(carrier);
        Rumour taken = rumourAt(rumour);
        requireInTown(taker);
        if (taken.town != taker.town) {
            throw new IllegalStateException("the rumour is not in the same town");
        }
        if (inBag(taker) >= ROOM_IN_BAG) {
            throw new IllegalStateException("6 rumours are in the bag");
        }
        taken.putIntoBag(taker);
        return inBag(taker);
    }

    /** Leaves a rumour of the bag in the town and returns how many are in the bag. */
    public int leave(int carrier, int rumour) throws IndexOutOfBoundsException, IllegalStateException {
        Carrier leaver = carrierAt(carrier);
        Rumour left = rumourAt(rumour);
        requireInTown(leaver);
        requireHas(leaver, left);
        left.putIntoTown(leaver.town);
        return inBag(leaver);
    }

    /** Hides a rumour in the bag, or no more, and returns how many are hidden there. */
    public int hide(int carrier, int rumour, boolean isHidden)
            throws IndexOutOfBoundsException, IllegalStateException {
        Carrier hider = carrierAt(carrier);
        Rumour hidden = rumourAt(rumour);
        requireHas(hider, hidden);
        hidden.isHidden = isHidden;
        return hiddenInBag(hider);
    }

    /** Tells a rumour in the town and returns the new one, -1 if none is made. */
    public int tell(int carrier, int rumour) throws IndexOutOfBoundsException, IllegalStateException {
        Carrier teller = carrierAt(carrier);
        Rumour told = rumourAt(rumour);
        requireInTown(teller);
        requireHas(teller, told);
        int depth = told.depth + 1;
        Rumour known = leastDeepIn(teller.town, told.family);
        if (known != null && known.depth <= depth) {
            return NONE;
        }
        if (rumours.size() >= MOST_RUMOURS) {
            throw new IllegalStateException("there are 60 rumours");
        }
        if (depth > MOST_DEPTH) {
            throw new IllegalStateException("the depth would be 100");
        }
        int number = rumours.size();
        rumours.add(new Rumour(number, told.family, told.length, depth, told.proofs, teller.town));
        return number;
    }

    /** Sends a carrier by a road and returns what was paid, with a fine. */
    public int go(int carrier, int town, int burn)
            throws IndexOutOfBoundsException, IllegalArgumentException, IllegalStateException {
        Carrier goer = carrierAt(carrier);
        requireTown(town);
        requireWithin(burn, 0, MOST_PROOFS);
        requireInTown(goer);
        Road road = map.between(goer.town, town);
        if (road == null) {
            throw new IllegalStateException("there is no road");
        }
        int duties = owedBy(goer, road, burn);
        if (duties > goer.purse) {
            throw new IllegalStateException("the purse does not hold what is owed");
        }
        int fine = fineOf(goer, road, goer.purse - duties);
        burnProofs(goer, burn);
        inspect(goer, road);
        pay(goer, road, duties, fine);
        goer.setOut(town, road.hours);
        return duties + fine;
    }

    /** Tells of a carrier. */
    public int carrier(int carrier, int what) throws IndexOutOfBoundsException {
        Carrier asked = carrierAt(carrier);
        requireWhat(what, LAST_OF_CARRIER);
        return figureOf(asked, what);
    }

    /** Tells what a carrier would pay who went now, with a fine; -1 if there is no road. */
    public int wouldPay(int carrier, int town, int burn)
            throws IndexOutOfBoundsException, IllegalArgumentException, IllegalStateException {
        Carrier goer = carrierAt(carrier);
        requireTown(town);
        requireWithin(burn, 0, MOST_PROOFS);
        requireInTown(goer);
        Road road = map.between(goer.town, town);
        if (road == null) {
            return NONE;
        }
        int duties = owedBy(goer, road, burn);
        return duties + fineOf(goer, road, goer.purse - duties);
    }

    // ---- hours

    /** Lets hours go by and returns how many carriers have come to towns in them. */
    public int pass(int hours) throws IllegalArgumentException {
        requireWithin(hours, 1, MOST_HOURS_OF_PASS);
        hour += hours;
        int come = 0;
        for (int i = 0; i < carriers.size(); i++) {
            if (carriers.get(i).comesWithin(hours)) {
                come++;
            }
        }
        return come;
    }

    /** Tells a number of the whole land. */
    public int count(int what) throws IndexOutOfBoundsException {
        requireWhat(what, LAST_OF_COUNT);
        return figureOfLand(what);
    }

    // ---- ways

    /** Tells the duties or the hours of a rumour's cheapest way between two towns; -1 if there is none. */
    public int cheapest(int rumour, int from, int to, int what) throws IndexOutOfBoundsException {
        Rumour asked = rumourAt(rumour);
        requireTown(from);
        requireTown(to);
        requireWhat(what, LAST_OF_WAY);
        int price = ways.leastPrice(asked, from, to);
        if (price == NONE) {
            return NONE;
        }
        return what == 0 ? WaySearch.dutiesOf(price) : WaySearch.hoursOf(price);
    }

    /** Tells how far the family of a rumour has come. */
    public int spread(int rumour, int what) throws IndexOutOfBoundsException {
        int family = rumourAt(rumour).family;
        requireWhat(what, LAST_OF_SPREAD);
        switch (what) {
            case 0:
                return townsThatKnow(family);
            case 1:
                return greatestDepthInTowns(family);
            default:
                return notGoneOf(family);
        }
    }

    /** Tells the mean depth of all rumours that are in towns; 0 if there are none. */
    public double hearsay() {
        int found = 0;
        int depths = 0;
        for (int i = 0; i < rumours.size(); i++) {
            Rumour each = rumours.get(i);
            if (each.town != NONE) {
                found++;
                depths += each.depth;
            }
        }
        return found == 0 ? 0.0 : (double) depths / found;
    }

    /** Computes a checksum of all that the land tells. */
    public long digest() {
        long d = DIGEST_START;
        for (int what = 0; what <= LAST_OF_COUNT; what++) {
            d = d * DIGEST_FACTOR + figureOfLand(what);
        }
        d = digestRoads(d);
        d = digestRumours(d);
        return digestCarriers(d);
    }

    // ---- what is asked for must be there

    private static void requireWithin(int value, int least, int most) throws IllegalArgumentException {
        if (value < least || value > most) {
            throw new IllegalArgumentException("a number is out of its limits");
        }
    }

    private static void requireWhat(int what, int last) throws IndexOutOfBoundsException {
        if (what < 0 || what > last) {
            throw new IndexOutOfBoundsException("there is no such thing to tell");
        }
    }

    private void requireTown(int number) throws IndexOutOfBoundsException {
        if (number < 0 || number >= townCount) {
            throw new IndexOutOfBoundsException("there is no such town");
        }
    }

    private Rumour rumourAt(int number) throws IndexOutOfBoundsException {
        if (number < 0 || number >= rumours.size()) {
            throw new IndexOutOfBoundsException("there is no such rumour");
        }
        return rumours.get(number);
    }

    private Carrier carrierAt(int number) throws IndexOutOfBoundsException {
        if (number < 0 || number >= carriers.size()) {
            throw new IndexOutOfBoundsException("there is no such carrier");
        }
        return carriers.get(number);
    }

    private static void requireInTown(Carrier carrier) throws IllegalStateException {
        if (carrier.isOnTheWay()) {
            throw new IllegalStateException("the carrier is on the way");
        }
    }

    private static void requireHas(Carrier carrier, Rumour rumour) throws IllegalStateException {
        if (!rumour.isInBagOf(carrier)) {
            throw new IllegalStateException("the carrier does not have the rumour");
        }
    }

    // ---- what is in a town

    private int rumoursIn(int town) {
        int found = 0;
        for (int i = 0; i < rumours.size(); i++) {
            if (rumours.get(i).town == town) {
                found++;
            }
        }
        return found;
    }

    private int familiesIn(int town) {
        // A family is a rumour's number, below 60: a long has a bit for each.
        long families = 0;
        for (int i = 0; i < rumours.size(); i++) {
            Rumour each = rumours.get(i);
            if (each.town == town) {
                families |= 1L << each.family;
            }
        }
        return Long.bitCount(families);
    }

    private int deepestIn(int town) {
        int deepest = NONE;
        int depth = NONE;
        for (int i = 0; i < rumours.size(); i++) {
            Rumour each = rumours.get(i);
            if (each.town == town && each.depth > depth) {
                deepest = i;
                depth = each.depth;
            }
        }
        return deepest;
    }

    private int carriersIn(int town) {
        int found = 0;
        for (int i = 0; i < carriers.size(); i++) {
            Carrier each = carriers.get(i);
            if (each.town == town && !each.isOnTheWay()) {
                found++;
            }
        }
        return found;
    }

    /** The rumour of the family that is in the town with the least depth, or null. */
    private Rumour leastDeepIn(int town, int family) {
        Rumour least = null;
        for (int i = 0; i < rumours.size(); i++) {
            Rumour each = rumours.get(i);
            if (each.town == town && each.family == family && (least == null || each.depth < least.depth)) {
                least = each;
            }
        }
        return least;
    }

    // ---- what is in a bag, and what is paid for it

    private int inBag(Carrier carrier) {
        int found = 0;
        for (int i = 0; i < rumours.size(); i++) {
            if (rumours.get(i).isInBagOf(carrier)) {
                found++;
            }
        }
        return found;
    }

    private int hiddenInBag(Carrier carrier) {
        int found = 0;
        for (int i = 0; i < rumours.size(); i++) {
            if (rumours.get(i).isHiddenBy(carrier)) {
                found++;
            }
        }
        return found;
    }

    private int owedBy(Carrier carrier, Road road, int burn) {
        int owed = 0;
        for (int i = 0; i < rumours.size(); i++) {
            Rumour each = rumours.get(i);
            if (each.isShownBy(carrier)) {
                owed += road.dutyOf(each, each.burnable(burn));
            }
        }
        return owed;
    }

    /** The fine at a gate for one whose purse still holds what is left; 0 if there is no search. */
    private int fineOf(Carrier carrier, Road road, int left) {
        if (road.attentionBehind(hiddenInBag(carrier)) < SEARCH_FROM) {
            return 0;
        }
        int duties = 0;
        for (int i = 0; i < rumours.size(); i++) {
            Rumour each = rumours.get(i);
            if (each.isHiddenBy(carrier)) {
                duties += road.dutyOf(each, 0);
            }
        }
        return Math.max(0, Math.min(FINE_TIMES * duties, left));
    }

    private void burnProofs(Carrier carrier, int burn) {
        for (int i = 0; i < rumours.size(); i++) {
            Rumour each = rumours.get(i);
            if (each.isShownBy(carrier)) {
                int burnt = each.burnable(burn);
                each.proofs -= burnt;
                proofsBurnt += burnt;
            }
        }
    }

    private void inspect(Carrier carrier, Road road) {
        road.attention = road.attentionBehind(hiddenInBag(carrier));
        if (road.attention >= SEARCH_FROM) {
            road.attention -= SEARCH_FROM;
            searches++;
            takeHidden(carrier);
        }
    }

    private void takeHidden(Carrier carrier) {
        for (int i = 0; i < rumours.size(); i++) {
            Rumour each = rumours.get(i);
            if (each.isHiddenBy(carrier)) {
                each.vanish();
            }
        }
    }

    private void pay(Carrier carrier, Road road, int duties, int fine) {
        carrier.pay(duties + fine);
        road.paid += duties + fine;
        dutiesPaid += duties;
        finesPaid += fine;
    }

    // ---- how far a family has come

    private int townsThatKnow(int family) {
        // A town's number is below 10: an int has a bit for each.
        int towns = 0;
        for (int i = 0; i < rumours.size(); i++) {
            Rumour each = rumours.get(i);
            if (each.family == family && each.town != NONE) {
                towns |= 1 << each.town;
            }
        }
        return Integer.bitCount(towns);
    }

    private int greatestDepthInTowns(int family) {
        int depth = NONE;
        for (int i = 0; i < rumours.size(); i++) {
            Rumour each = rumours.get(i);
            if (each.family == family && each.town != NONE) {
                depth = Math.max(depth, each.depth);
            }
        }
        return depth;
    }

    private int notGoneOf(int family) {
        int found = 0;
        for (int i = 0; i < rumours.size(); i++) {
            Rumour each = rumours.get(i);
            if (each.family == family && !each.isGone()) {
                found++;
            }
        }
        return found;
    }

    // ---- numbers of carriers and of the whole land, and their checksum

    private int figureOf(Carrier carrier, int what) {
        switch (what) {
            case 0:
                return carrier.town;
            case 1:
                return carrier.hoursLeft;
            case 2:
                return carrier.purse;
            case 3:
                return inBag(carrier);
            case 4:
                return hiddenInBag(carrier);
            default:
                return carrier.paid;
        }
    }

    private int figureOfLand(int what) {
        switch (what) {
            case 0:
                return hour;
            case 1:
                return townCount;
            case 2:
                return roadCount;
            case 3:
                return rumours.size();
            case 4:
                return goneRumours();
            case 5:
                return carriers.size();
            case 6:
                return carriersOnTheWay();
            case 7:
                return proofsBurnt;
            case 8:
                return dutiesPaid;
            case 9:
                return finesPaid;
            default:
                return searches;
        }
    }

    private int goneRumours() {
        int found = 0;
        for (int i = 0; i < rumours.size(); i++) {
            if (rumours.get(i).isGone()) {
                found++;
            }
        }
        return found;
    }

    private int carriersOnTheWay() {
        int found = 0;
        for (int i = 0; i < carriers.size(); i++) {
            if (carriers.get(i).isOnTheWay()) {
                found++;
            }
        }
        return found;
    }

    private long digestRoads(long start) {
        long d = start;
        for (int a = 0; a < townCount; a++) {
            for (int b = a + 1; b < townCount; b++) {
                Road road = map.between(a, b);
                if (road != null) {
                    d = digestRoad(d, road);
                }
            }
        }
        return d;
    }

    private static long digestRoad(long start, Road road) {
        long d = start;
        for (int what = 0; what <= LAST_OF_ROAD; what++) {
            d = d * DIGEST_FACTOR + road.figure(what);
        }
        return d;
    }

    private long digestRumours(long start) {
        long d = start;
        for (int i = 0; i < rumours.size(); i++) {
            Rumour each = rumours.get(i);
            for (int what = 0; what <= LAST_OF_RUMOUR; what++) {
                d = d * DIGEST_FACTOR + each.figure(what);
            }
        }
        return d;
    }

    private long digestCarriers(long start) {
        long d = start;
        for (int i = 0; i < carriers.size(); i++) {
            Carrier each = carriers.get(i);
            for (int what = 0; what <= LAST_OF_CARRIER; what++) {
                d = d * DIGEST_FACTOR + figureOf(each, what);
            }
        }
        return d;
    }

    /** A road with its gate. */
    private static final class Road {
        final int hours;
        final int tariff;
        final int surcharge;
        final int strictness;
        int attention;
        int paid;

        Road(int hours, int tariff, int surcharge, int strictness) {
            this.hours = hours;
            this.tariff = tariff;
            this.surcharge = surcharge;
            this.strictness = strictness;
        }

        int dutyOf(Rumour rumour, int burnt) {
            // The duty is never below 0: to halve and cut it again and again is to shift it.
            return (tariff * rumour.length + surcharge * rumour.depth) >> burnt;
        }

        int attentionBehind(int hidden) {
            return attention + strictness + hidden;
        }

        int figure(int what) {
            switch (what) {
                case 0:
                    return 1;
                case 1:
                    return hours;
                case 2:
                    return tariff;
                case 3:
                    return surcharge;
                case 4:
                    return strictness;
                case 5:
                    return attention;
                default:
                    return paid;
            }
        }
    }

    /** Which road lies between two towns. */
    private static final class RoadMap {
        private final Road[] roads;

        RoadMap() {
            roads = new Road[MOST_TOWNS * MOST_TOWNS];
        }

        void put(int a, int b, Road road) {
            if (isOnMap(a) && isOnMap(b)) {
                roads[a * MOST_TOWNS + b] = road;
                roads[b * MOST_TOWNS + a] = road;
            }
        }

        /** The road between two towns, or null. */
        Road between(int a, int b) {
            return isOnMap(a) && isOnMap(b) ? roads[a * MOST_TOWNS + b] : null;
        }

        private static boolean isOnMap(int town) {
            return town >= 0 && town < MOST_TOWNS;
        }
    }

    /** A rumour, in a town, in a bag, or gone. */
    private static final class Rumour {
        final int number;
        final int family;
        final int length;
        final int depth;
        int proofs;
        int town;
        int bagOf;
        boolean isHidden;

        Rumour(int number, int family, int length, int depth, int proofs, int town) {
            this.number = number;
            this.family = family;
            this.length = length;
            this.depth = depth;
            this.proofs = proofs;
            this.town = town;
            this.bagOf = NONE;
        }

        void putIntoBag(Carrier carrier) {
            move(NONE, carrier.number);
        }

        void putIntoTown(int newTown) {
            move(newTown, NONE);
        }

        void vanish() {
            move(NONE, NONE);
        }

        private void move(int newTown, int newBagOf) {
            town = newTown;
            bagOf = newBagOf;
            isHidden = false;
        }

        boolean isGone() {
            return town == NONE && bagOf == NONE;
        }

        boolean isInBagOf(Carrier carrier) {
            return bagOf == carrier.number;
        }

        boolean isHiddenBy(Carrier carrier) {
            return isHidden && isInBagOf(carrier);
        }

        boolean isShownBy(Carrier carrier) {
            return !isHidden && isInBagOf(carrier);
        }

        int burnable(int burn) {
            return Math.min(burn, proofs);
        }

        int figure(int what) {
            switch (what) {
                case 0:
                    return length;
                case 1:
                    return depth;
                case 2:
                    return proofs;
                case 3:
                    return family;
                case 4:
                    return town;
                case 5:
                    return bagOf;
                default:
                    return isHidden ? 1 : 0;
            }
        }
    }

    /** A carrier, in a town, or on the way to it for as many hours as are left. */
    private static final class Carrier {
        final int number;
        int town;
        int hoursLeft;
        int purse;
        int paid;

        Carrier(int number, int town, int purse) {
            this.number = number;
            this.town = town;
            this.purse = purse;
        }

        boolean isOnTheWay() {
            return hoursLeft > 0;
        }

        void pay(int sum) {
            purse -= sum;
            paid += sum;
        }

        void setOut(int goal, int hours) {
            town = goal;
            hoursLeft = hours;
        }

        /** Goes on for some hours, and tells whether the town is reached in them. */
        boolean comesWithin(int hours) {
            if (!isOnTheWay()) {
                return false;
            }
            hoursLeft = Math.max(0, hoursLeft - hours);
            return hoursLeft == 0;
        }
    }

    /**
     * Looks for the cheapest way of a rumour, by Dijkstra's method. A stage is a town and how many
     * proofs have been burnt on the way to it. The rows are made once, since a run has little room.
     */
    private static final class WaySearch {
        private static final int STAGES = MOST_TOWNS * (MOST_PROOFS + 1);
        /** One number orders ways by duties, then by hours: no way goes through more than 60 stages, 9 hours each. */
        private static final int DUTY_UNIT = 1000;
        /** Above the price of any way. */
        private static final int UNREACHED = 1000000000;

        private final RoadMap map;
        private final int[] prices;
        private final boolean[] areSettled;

        WaySearch(RoadMap map) {
            this.map = map;
            prices = new int[STAGES];
            areSettled = new boolean[STAGES];
        }

        static int dutiesOf(int price) {
            return price / DUTY_UNIT;
        }

        static int hoursOf(int price) {
            return price % DUTY_UNIT;
        }

        /** The price of the cheapest way; -1 if there is none. */
        int leastPrice(Rumour rumour, int from, int to) {
            startIn(from);
            for (int round = 0; round < STAGES; round++) {
                int stage = nextStage();
                if (stage == NONE) {
                    return NONE;
                }
                if (townOf(stage) == to) {
                    return prices[stage];
                }
                areSettled[stage] = true;
                goOnFrom(stage, rumour);
            }
            return NONE;
        }

        private void startIn(int from) {
            for (int stage = 0; stage < STAGES; stage++) {
                prices[stage] = stage == from ? 0 : UNREACHED;
                areSettled[stage] = false;
            }
        }

        private int nextStage() {
            int next = NONE;
            int price = UNREACHED;
            for (int stage = 0; stage < STAGES; stage++) {
                if (!areSettled[stage] && prices[stage] < price) {
                    next = stage;
                    price = prices[stage];
                }
            }
            return next;
        }

        private void goOnFrom(int stage, Rumour rumour) {
            for (int town = 0; town < MOST_TOWNS; town++) {
                Road road = map.between(townOf(stage), town);
                if (road != null) {
                    goBy(road, town, stage, rumour);
                }
            }
        }

        private void goBy(Road road, int town, int stage, Rumour rumour) {
            int before = burntAt(stage);
            for (int burnt = 0; burnt <= rumour.proofs - before; burnt++) {
                int next = (before + burnt) * MOST_TOWNS + town;
                int price = prices[stage] + road.dutyOf(rumour, burnt) * DUTY_UNIT + road.hours;
                if (next < STAGES && price < prices[next]) {
                    prices[next] = price;
                }
            }
        }

        private static int townOf(int stage) {
            return stage % MOST_TOWNS;
        }

        private static int burntAt(int stage) {
            return stage / MOST_TOWNS;
        }
    }
}
