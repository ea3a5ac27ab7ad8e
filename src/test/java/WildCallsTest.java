import java.util.function.LongSupplier;

/** Long runs of calls, right and wrong ones: whatever was called, the land must stay sound. */
final class WildCallsTest {
    private static final int[] FAR = {Integer.MIN_VALUE, -60, -1, 60, 100, 1000, Integer.MAX_VALUE};

    /** With the looks at the land between the calls, and those at its end, an object has fewer than 512 calls. */
    private static final int CALLS = 90;

    private final RumourCustoms land = new RumourCustoms();
    private final Dice dice;
    private int towns;
    private int rumours;
    private int carriers;

    private WildCallsTest(Dice dice) {
        this.dice = dice;
    }

    static void aRefusedCallThrowsAnExceptionOfTheDocumentAndChangesNothing() {
        Dice dice = new Dice(1);
        int refused = 0;
        for (int round = 0; round < 700; round++) {
            refused += new WildCallsTest(dice).refusedOfARun();
        }
        Check.holds(refused > 10000, "too few calls were refused: " + refused);
    }

    private int refusedOfARun() {
        int refused = 0;
        long before = land.digest();
        for (int i = 0; i < CALLS; i++) {
            boolean isAnswered = isAnswered(wildCall());
            long behind = land.digest();
            if (!isAnswered) {
                refused++;
                Check.same(behind, before);
            }
            before = behind;
        }
        checkSums(land);
        return refused;
    }

    static void everyQuestionCanBeAskedOfEmptyLands() {
        for (int a : FAR) {
            for (int b : FAR) {
                RumourCustoms land = new RumourCustoms();
                Check.refuses(land, Check.NO_SUCH, () -> land.build(a, b, a, b, a, b));
                Check.refuses(land, Check.NO_SUCH, () -> land.road(a, b, 0));
                Check.refuses(land, Check.NO_SUCH, () -> land.makeUp(a, b, a));
                Check.refuses(land, Check.NO_SUCH, () -> land.rumour(a, b));
                Check.refuses(land, Check.NO_SUCH, () -> land.town(a, b));
                Check.refuses(land, Check.NO_SUCH, () -> land.heard(a, b));
                Check.refuses(land, Check.NO_SUCH, () -> land.addCarrier(a, b));
                Check.refuses(land, Check.NO_SUCH, () -> land.take(a, b));
                Check.refuses(land, Check.NO_SUCH, () -> land.leave(a, b));
                Check.refuses(land, Check.NO_SUCH, () -> land.hide(a, b, true));
                Check.refuses(land, Check.NO_SUCH, () -> land.tell(a, b));
                Check.refuses(land, Check.NO_SUCH, () -> land.go(a, b, a));
                Check.refuses(land, Check.NO_SUCH, () -> land.carrier(a, b));
                Check.refuses(land, Check.NO_SUCH, () -> land.wouldPay(a, b, a));
                Check.refuses(land, Check.NO_SUCH, () -> land.cheapest(a, b, a, 0));
                Check.refuses(land, Check.NO_SUCH, () -> land.spread(a, b));
            }
        }
    }

    /** What is told in one place agrees with what is told in another. */
    private static void checkSums(RumourCustoms land) {
        int towns = land.count(1);
        int carriers = land.count(5);
        long onRoads = 0;
        for (int a = 0; a < towns; a++) {
            for (int b = a + 1; b < towns; b++) {
                onRoads += land.road(a, b, 6);
            }
        }
        long byCarriers = 0;
        long placed = land.count(4);
        for (int i = 0; i < carriers; i++) {
            byCarriers += land.carrier(i, 5);
            int inBag = land.carrier(i, 3);
            placed += inBag;
            Check.holds(land.carrier(i, 2) >= 0, "a purse is below 0");
            Check.holds(inBag <= 6, "more than 6 are in a bag");
        }
        for (int i = 0; i < towns; i++) {
            placed += land.town(i, 0);
        }
        Check.same(onRoads, land.count(8) + land.count(9));
        Check.same(byCarriers, land.count(8) + land.count(9));
        Check.same(placed, land.count(3));
        Check.same(land.digest(), WaysTest.digestOf(land));
    }

    private static boolean isAnswered(LongSupplier call) {
        try {
            call.getAsLong();
            return true;
        } catch (RuntimeException e) {
            Class<?> thrown = e.getClass();
            boolean isOfTheDocument = thrown == Check.NO_SUCH || thrown == Check.BAD_NUMBER
                    || thrown == Check.NOT_NOW;
            Check.holds(isOfTheDocument, "threw " + e);
            Check.isOwn(e);
            return false;
        }
    }

    /** A number below the bound for the most part, now and then one far out. */
    private int number(int bound) {
        return dice.below(25) == 0 ? FAR[dice.below(FAR.length)] : dice.below(bound);
    }

    private LongSupplier wildCall() {
        int a = number(Math.max(1, towns));
        int b = number(Math.max(1, towns));
        int rumour = number(Math.max(1, rumours));
        int carrier = number(Math.max(1, carriers));
        int what = number(8);
        int burn = number(6);
        boolean isHidden = dice.below(2) == 0;
        switch (dice.below(24)) {
            case 0:
                return () -> towns = land.addTown() + 1;
            case 1:
            case 2:
                return () -> land.build(a, b, what + 1, burn * 3, burn * 4, what);
            case 3:
                return () -> land.road(a, b, what);
            case 4:
            case 5:
                return () -> rumours = land.makeUp(a, what + 1, burn) + 1;
            case 6:
                return () -> land.rumour(rumour, what);
            case 7:
                return () -> land.town(a, what);
            case 8:
                return () -> land.heard(a, rumour);
            case 9:
                return () -> carriers = land.addCarrier(a, 1000 * what) + 1;
            case 10:
            case 11:
            case 12:
                return () -> land.take(carrier, rumour);
            case 13:
                return () -> land.leave(carrier, rumour);
            case 14:
                return () -> land.hide(carrier, rumour, isHidden);
            case 15:
            case 16:
                return () -> rumours = Math.max(rumours, land.tell(carrier, rumour) + 1);
            case 17:
            case 18:
            case 19:
                return () -> goAsForetold(carrier, a, burn);
            case 20:
                return () -> land.carrier(carrier, what) + land.count(what);
            case 21:
                return () -> land.pass(what + 1);
            case 22:
                return () -> land.cheapest(rumour, a, b, what & 1);
            default:
                return () -> land.spread(rumour, what);
        }
    }

    private long goAsForetold(int carrier, int town, int burn) {
        int foretold = land.wouldPay(carrier, town, burn);
        int paid = land.go(carrier, town, burn);
        Check.same(paid, foretold);
        return paid;
    }
}
