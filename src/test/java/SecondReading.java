import java.util.ArrayList;
import java.util.HashMap;
import java.util.List;
import java.util.Map;
import java.util.TreeSet;

/**
 * The document read a second time, and built otherwise than the class: what is in a town or in a bag is a set here, a
 * family is followed back from parent to parent, a journey has the hour at which it ends, and the halves
 * are cut one by one.
 */
final class SecondReading {
    private static final int[] NOTHING = {};

    private final List<TreeSet<Integer>> towns = new ArrayList<>();
    private final Map<Integer, Gate> gates = new HashMap<>();
    private final List<Told> rumours = new ArrayList<>();
    private final List<Bearer> carriers = new ArrayList<>();
    private int hour;
    private int burntProofs;
    private int duties;
    private int fines;
    private int searches;

    private static final class Gate {
        int hours;
        int tariff;
        int surcharge;
        int strictness;
        int attention;
        int paid;
    }

    private static final class Told {
        int length;
        int depth;
        int proofs;
        int parent;
    }

    private static final class Bearer {
        final TreeSet<Integer> shown = new TreeSet<>();
        final TreeSet<Integer> hidden = new TreeSet<>();
        int goal;
        int comesAt;
        int purse;
        int paid;
    }

    int addTown() {
        now(towns.size() < 10);
        towns.add(new TreeSet<>());
        return towns.size() - 1;
    }

    int build(int a, int b, int hours, int tariff, int surcharge, int strictness) {
        exists(a, towns);
        exists(b, towns);
        good(a != b && 1 <= hours && hours <= 9 && 0 <= tariff && tariff <= 20);
        good(0 <= surcharge && surcharge <= 30 && 0 <= strictness && strictness <= 9);
        now(gateOf(a, b) == null);
        Gate gate = new Gate();
        gate.hours = hours;
        gate.tariff = tariff;
        gate.surcharge = surcharge;
        gate.strictness = strictness;
        gates.put(Math.min(a, b) * 10 + Math.max(a, b), gate);
        return gates.size();
    }

    int road(int a, int b, int what) {
        exists(a, towns);
        exists(b, towns);
        told(0 <= what && what <= 6);
        return gateOf(a, b) == null ? 0 : figures(gateOf(a, b))[what];
    }

    int makeUp(int town, int length, int proofs) {
        exists(town, towns);
        good(1 <= length && length <= 30 && 0 <= proofs && proofs <= 5);
        now(rumours.size() < 60);
        return add(town, length, 0, proofs, -1);
    }

    int rumour(int rumour, int what) {
        exists(rumour, rumours);
        told(0 <= what && what <= 6);
        return figuresOfRumour(rumour)[what];
    }

    int town(int town, int what) {
        exists(town, towns);
        told(0 <= what && what <= 3);
        TreeSet<Integer> families = new TreeSet<>();
        int deepest = -1;
        for (int rumour : towns.get(town)) {
            families.add(familyOf(rumour));
            if (deepest < 0 || rumours.get(rumour).depth > rumours.get(deepest).depth) {
                deepest = rumour;
            }
        }
        int there = 0;
        for (Bearer each : carriers) {
            there += each.goal == town && !isOnTheWay(each) ? 1 : 0;
        }
        return new int[] {towns.get(town).size(), families.size(), deepest, there}[what];
    }

    int heard(int town, int rumour) {
        exists(town, towns);
        exists(rumour, rumours);
        int found = -1;
        for (int each : towns.get(town).descendingSet()) {
            boolean isOfIt = familyOf(each) == familyOf(rumour);
            if (isOfIt && (found < 0 || rumours.get(each).depth <= rumours.get(found).depth)) {
                found = each;
            }
        }
        return found;
    }

    int addCarrier(int town, int purse) {
        exists(town, towns);
        good(0 <= purse && purse <= 1000000);
        now(carriers.size() < 8);
        Bearer bearer = new Bearer();
        bearer.goal = town;
        bearer.purse = purse;
        carriers.add(bearer);
        return carriers.size() - 1;
    }

    int take(int carrier, int rumour) {
        exists(carrier, carriers);
        exists(rumour, rumours);
        Bearer bearer = carriers.get(carrier);
        now(!isOnTheWay(bearer) && towns.get(bearer.goal).contains(rumour) && inBag(bearer) < 6);
        towns.get(bearer.goal).remove(rumour);
        bearer.shown.add(rumour);
        return inBag(bearer);
    }

    int leave(int carrier, int rumour) {
        exists(carrier, carriers);
        exists(rumour, rumours);
        Bearer bearer = carriers.get(carrier);
        now(!isOnTheWay(bearer) && has(bearer, rumour));
        bearer.shown.remove(rumour);
        bearer.hidden.remove(rumour);
        towns.get(bearer.goal).add(rumour);
        return inBag(bearer);
    }

    int hide(int carrier, int rumour, boolean isHidden) {
        exists(carrier, carriers);
        exists(rumour, rumours);
        Bearer bearer = carriers.get(carrier);
        now(has(bearer, rumour));
        (isHidden ? bearer.shown : bearer.hidden).remove(rumour);
        (isHidden ? bearer.hidden : bearer.shown).add(rumour);
        return bearer.hidden.size();
    }

    int tell(int carrier, int rumour) {
        exists(carrier, carriers);
        exists(rumour, rumours);
        Bearer bearer = carriers.get(carrier);
        now(!isOnTheWay(bearer) && has(bearer, rumour));
        Told own = rumours.get(rumour);
        int known = heard(bearer.goal, rumour);
        if (known >= 0 && rumours.get(known).depth <= own.depth + 1) {
            return -1;
        }
        now(rumours.size() < 60 && own.depth + 1 < 100);
        return add(bearer.goal, own.length, own.depth + 1, own.proofs, rumour);
    }

    int go(int carrier, int town, int burn) {
        exists(carrier, carriers);
        exists(town, towns);
        good(0 <= burn && burn <= 5);
        Bearer bearer = carriers.get(carrier);
        now(!isOnTheWay(bearer) && gateOf(bearer.goal, town) != null);
        Gate gate = gateOf(bearer.goal, town);
        int owed = owed(bearer, gate, burn);
        now(owed <= bearer.purse);
        for (int rumour : bearer.shown) {
            Told each = rumours.get(rumour);
            for (int i = 0; i < burn && each.proofs > 0; i++) {
                each.proofs--;
                burntProofs++;
            }
        }
        int left = bearer.purse - owed;
        gate.attention += gate.strictness + bearer.hidden.size();
        int fine = 0;
        if (gate.attention >= 10) {
            gate.attention -= 10;
            searches++;
            fine = Math.min(left, 3 * dutiesOfHidden(bearer, gate));
            bearer.hidden.clear();
        }
        bearer.purse = left - fine;
        bearer.paid += owed + fine;
        gate.paid += owed + fine;
        duties += owed;
        fines += fine;
        bearer.goal = town;
        bearer.comesAt = hour + gate.hours;
        return owed + fine;
    }

    int carrier(int carrier, int what) {
        exists(carrier, carriers);
        told(0 <= what && what <= 5);
        return figures(carriers.get(carrier))[what];
    }

    int wouldPay(int carrier, int town, int burn) {
        exists(carrier, carriers);
        exists(town, towns);
        good(0 <= burn && burn <= 5);
        Bearer bearer = carriers.get(carrier);
        now(!isOnTheWay(bearer));
        Gate gate = gateOf(bearer.goal, town);
        if (gate == null) {
            return -1;
        }
        int owed = owed(bearer, gate, burn);
        boolean isSearched = gate.attention + gate.strictness + bearer.hidden.size() >= 10;
        if (!isSearched || bearer.purse <= owed) {
            return owed;
        }
        return Math.min(bearer.purse, owed + 3 * dutiesOfHidden(bearer, gate));
    }

    int pass(int hours) {
        good(1 <= hours && hours <= 100);
        int come = 0;
        for (Bearer each : carriers) {
            come += hour < each.comesAt && each.comesAt <= hour + hours ? 1 : 0;
        }
        hour += hours;
        return come;
    }

    int count(int what) {
        told(0 <= what && what <= 10);
        return figures()[what];
    }

    /** The best ways so far, by town and by the proofs that are left, are made better until none can be. */
    int cheapest(int rumour, int from, int to, int what) {
        exists(rumour, rumours);
        exists(from, towns);
        exists(to, towns);
        told(0 <= what && what <= 1);
        Told asked = rumours.get(rumour);
        long[][] best = new long[towns.size()][asked.proofs + 1];
        for (long[] row : best) {
            java.util.Arrays.fill(row, Long.MAX_VALUE);
        }
        best[from][asked.proofs] = 0;
        boolean isBetter = true;
        while (isBetter) {
            isBetter = false;
            for (Map.Entry<Integer, Gate> each : gates.entrySet()) {
                int a = each.getKey() / 10;
                int b = each.getKey() % 10;
                isBetter |= goesBetter(best[a], best[b], each.getValue(), asked);
                isBetter |= goesBetter(best[b], best[a], each.getValue(), asked);
            }
        }
        long least = Long.MAX_VALUE;
        for (long each : best[to]) {
            least = Math.min(least, each);
        }
        if (least == Long.MAX_VALUE) {
            return -1;
        }
        return (int) (what == 0 ? least >> 32 : least & 0xffffffffL);
    }

    private static boolean goesBetter(long[] here, long[] there, Gate gate, Told rumour) {
        boolean isBetter = false;
        for (int left = 0; left < here.length; left++) {
            for (int burn = 0; burn <= left && here[left] != Long.MAX_VALUE; burn++) {
                long price = here[left] + ((long) duty(gate, rumour, burn) << 32) + gate.hours;
                if (price < there[left - burn]) {
                    there[left - burn] = price;
                    isBetter = true;
                }
            }
        }
        return isBetter;
    }

    int spread(int rumour, int what) {
        exists(rumour, rumours);
        told(0 <= what && what <= 2);
        int knowing = 0;
        int greatest = -1;
        int there = 0;
        for (TreeSet<Integer> town : towns) {
            boolean isKnown = false;
            for (int each : town) {
                if (familyOf(each) == familyOf(rumour)) {
                    isKnown = true;
                    greatest = Math.max(greatest, rumours.get(each).depth);
                    there++;
                }
            }
            knowing += isKnown ? 1 : 0;
        }
        for (Bearer bearer : carriers) {
            for (int i = 0; i < rumours.size(); i++) {
                there += has(bearer, i) && familyOf(i) == familyOf(rumour) ? 1 : 0;
            }
        }
        return new int[] {knowing, greatest, there}[what];
    }

    double hearsay() {
        double sum = 0;
        int there = 0;
        for (TreeSet<Integer> town : towns) {
            for (int each : town) {
                sum += rumours.get(each).depth;
                there++;
            }
        }
        return there == 0 ? 0 : sum / there;
    }

    long digest() {
        long d = digest(499, figures());
        for (int a = 0; a < towns.size(); a++) {
            for (int b = a + 1; b < towns.size(); b++) {
                d = digest(d, gateOf(a, b) == null ? NOTHING : figures(gateOf(a, b)));
            }
        }
        for (int i = 0; i < rumours.size(); i++) {
            d = digest(d, figuresOfRumour(i));
        }
        for (Bearer each : carriers) {
            d = digest(d, figures(each));
        }
        return d;
    }

    private static long digest(long start, int[] figures) {
        long d = start;
        for (int each : figures) {
            d = d * 31 + each;
        }
        return d;
    }

    private int[] figures() {
        int placed = 0;
        int onTheWay = 0;
        for (TreeSet<Integer> town : towns) {
            placed += town.size();
        }
        for (Bearer each : carriers) {
            placed += inBag(each);
            onTheWay += isOnTheWay(each) ? 1 : 0;
        }
        return new int[] {
            hour, towns.size(), gates.size(), rumours.size(), rumours.size() - placed, carriers.size(), onTheWay,
            burntProofs, duties, fines, searches};
    }

    private static int[] figures(Gate gate) {
        return new int[] {
            1, gate.hours, gate.tariff, gate.surcharge, gate.strictness, gate.attention, gate.paid};
    }

    private int[] figuresOfRumour(int rumour) {
        int place = -1;
        for (int i = 0; i < towns.size(); i++) {
            place = towns.get(i).contains(rumour) ? i : place;
        }
        int bag = -1;
        int hidden = 0;
        for (int i = 0; i < carriers.size(); i++) {
            bag = has(carriers.get(i), rumour) ? i : bag;
            hidden += carriers.get(i).hidden.contains(rumour) ? 1 : 0;
        }
        Told asked = rumours.get(rumour);
        return new int[] {asked.length, asked.depth, asked.proofs, familyOf(rumour), place, bag, hidden};
    }

    private int[] figures(Bearer bearer) {
        return new int[] {
            bearer.goal, Math.max(0, bearer.comesAt - hour), bearer.purse, inBag(bearer), bearer.hidden.size(),
            bearer.paid};
    }

    private int add(int town, int length, int depth, int proofs, int parent) {
        Told told = new Told();
        told.length = length;
        told.depth = depth;
        told.proofs = proofs;
        told.parent = parent;
        rumours.add(told);
        towns.get(town).add(rumours.size() - 1);
        return rumours.size() - 1;
    }

    private int familyOf(int rumour) {
        int first = rumour;
        while (rumours.get(first).parent >= 0) {
            first = rumours.get(first).parent;
        }
        return first;
    }

    private Gate gateOf(int a, int b) {
        return gates.get(Math.min(a, b) * 10 + Math.max(a, b));
    }

    private boolean isOnTheWay(Bearer bearer) {
        return bearer.comesAt > hour;
    }

    private static int inBag(Bearer bearer) {
        return bearer.shown.size() + bearer.hidden.size();
    }

    private static boolean has(Bearer bearer, int rumour) {
        return bearer.shown.contains(rumour) || bearer.hidden.contains(rumour);
    }

    private int owed(Bearer bearer, Gate gate, int burn) {
        int owed = 0;
        for (int rumour : bearer.shown) {
            owed += duty(gate, rumours.get(rumour), Math.min(burn, rumours.get(rumour).proofs));
        }
        return owed;
    }

    private int dutiesOfHidden(Bearer bearer, Gate gate) {
        int sum = 0;
        for (int rumour : bearer.hidden) {
            sum += duty(gate, rumours.get(rumour), 0);
        }
        return sum;
    }

    private static int duty(Gate gate, Told rumour, int burnt) {
        int duty = gate.tariff * rumour.length + gate.surcharge * rumour.depth;
        for (int i = 0; i < burnt; i++) {
            duty = duty / 2;
        }
        return duty;
    }

    private static void exists(int number, List<?> those) {
        told(0 <= number && number < those.size());
    }

    private static void told(boolean isTold) {
        if (!isTold) {
            throw new IndexOutOfBoundsException();
        }
    }

    private static void good(boolean isGood) {
        if (!isGood) {
            throw new IllegalArgumentException();
        }
    }

    private static void now(boolean isNow) {
        if (!isNow) {
            throw new IllegalStateException();
        }
    }
}
