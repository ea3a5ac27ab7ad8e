import java.util.function.LongSupplier;

/** Long runs of calls, right and wrong ones: whatever was called, the land must stay sound. */
final class WildCallsTest {
    private static final int[] FAR = {Integer.MIN_VALUE, -60, -1, 60, 100, 1000, Integer.MAX_VALUE};

    static void aRefusedCallThrowsAnExceptionOfTheDocumentAndChangesNothing() {
        Dice dice = new Dice(1);
        int refused = 0;
        for (int round = 0; round < 400; round++) {
            RumourCustoms land = new RumourCustoms();
            for (int i = 0; i < 170; i++) {
                long before = land.digest();
                if (!isAnswered(wildCall(land, dice))) {
                    refused++;
                    Check.same(land.digest(), before);
                }
            }
            checkSums(land);
        }
        Check.holds(refused > 10000, "too few calls were refused: " + refused);
    }

    static void everyQuestionCanBeAskedOfEmptyLands() {
        for (int a : FAR) {
            for (int b : FAR) {
                RumourCustoms land = new RumourCustoms();
                Check.refuses(land, Check.NO_SUCH, () -> land.build(a, b, a, b, a, b));
                Check.refuses(land, Check.NO_SUCH, () -> land.road(a, b, 0));
                Check.refuses(land, Check.NO_SUCH, () -> land.makeUp(a, b, a));
                Check.refuses(land, Check.NO_SUCH, () -> land.rumour(a, b));
                Check.refuses(land, Check.NO_SUCH, () -> land.town(a, b));
                Check.refuses(land, Check.NO_SUCH, () -> land.heard(a, b));
                Check.refuses(land, Check.NO_SUCH, () -> land.addCarrier(a, b));
                Check.refuses(land, Check.NO_SUCH, () -> land.take(a, b));
                Check.refuses(land, Check.NO_SUCH, () -> land.leave(a, b));
                Check.refuses(land, Check.NO_SUCH, () -> land.hide(a, b, true));
                Check.refuses(land, Check.NO_SUCH, () -> land.tell(a, b));
                Check.refuses(land, Check.NO_SUCH, () -> land.go(a, b, a));
                Check.refuses(land, Check.NO_SUCH, () -> land.carrier(a, b));
                Check.refuses(land, Check.NO_SUCH, () -> land.wouldPay(a, b, a));
                Check.refuses(land, Check.NO_SUCH, () -> land.cheapest(a, b, a, 0));
                Check.refuses(land, Check.NO_SUCH, () -> land.spread(a, b));
            }
        }
    }

    /** What is told in one place agrees with what is told in another. */
    private static void checkSums(RumourCustoms land) {
        long onRoads = 0;
        for (int a = 0; a < land.count(1); a++) {
            for (int b = a + 1; b < land.count(1); b++) {
                onRoads += land.road(a, b, 6);
            }
        }
        long byCarriers = 0;
        long placed = land.count(4);
        for (int i = 0; i < land.count(5); i++) {
            byCarriers += land.carrier(i, 5);
            placed += land.carrier(i, 3);
            Check.holds(land.carrier(i, 2) >= 0, "a purse is below 0");
            Check.holds(land.carrier(i, 3) <= 6, "more than 6 are in a bag");
        }
        for (int i = 0; i < land.count(1); i++) {
            placed += land.town(i, 0);
        }
        Check.same(onRoads, land.count(8) + land.count(9));
        Check.same(byCarriers, land.count(8) + land.count(9));
        Check.same(placed, land.count(3));
        Check.same(land.digest(), WaysTest.digestOf(land));
    }

    private static boolean isAnswered(LongSupplier call) {
        try {
            call.getAsLong();
            return true;
        } catch (RuntimeException e) {
            Class<?> thrown = e.getClass();
            boolean isOfTheDocument = thrown == Check.NO_SUCH || thrown == Check.BAD_NUMBER
                    || thrown == Check.NOT_NOW;
            Check.holds(isOfTheDocument, "threw " + e);
            Check.isOwn(e);
            return false;
        }
    }

    /** A number below the bound for the most part, now and then one far out. */
    private static int number(Dice dice, int bound) {
        return dice.below(25) == 0 ? FAR[dice.below(FAR.length)] : dice.below(bound);
    }

    private static LongSupplier wildCall(RumourCustoms land, Dice dice) {
        int towns = Math.max(1, land.count(1));
        int rumours = Math.max(1, land.count(3));
        int carriers = Math.max(1, land.count(5));
        int a = number(dice, towns);
        int b = number(dice, towns);
        int rumour = number(dice, rumours);
        int carrier = number(dice, carriers);
        int what = number(dice, 8);
        int burn = number(dice, 6);
        boolean isHidden = dice.below(2) == 0;
        switch (dice.below(24)) {
            case 0:
                return land::addTown;
            case 1:
            case 2:
                return () -> land.build(a, b, what + 1, burn * 3, burn * 4, what);
            case 3:
                return () -> land.road(a, b, what);
            case 4:
            case 5:
                return () -> land.makeUp(a, what + 1, burn);
            case 6:
                return () -> land.rumour(rumour, what);
            case 7:
                return () -> land.town(a, what);
            case 8:
                return () -> land.heard(a, rumour);
            case 9:
                return () -> land.addCarrier(a, 1000 * what);
            case 10:
            case 11:
            case 12:
                return () -> land.take(carrier, rumour);
            case 13:
                return () -> land.leave(carrier, rumour);
            case 14:
                return () -> land.hide(carrier, rumour, isHidden);
            case 15:
            case 16:
                return () -> land.tell(carrier, rumour);
            case 17:
            case 18:
            case 19:
                return () -> goAsForetold(land, carrier, a, burn);
            case 20:
                return () -> land.carrier(carrier, what) + land.count(what);
            case 21:
                return () -> land.pass(what + 1);
            case 22:
                return () -> land.cheapest(rumour, a, b, what & 1);
            default:
                return () -> land.spread(rumour, what);
        }
    }

    private static long goAsForetold(RumourCustoms land, int carrier, int town, int burn) {
        int foretold = land.wouldPay(carrier, town, burn);
        int paid = land.go(carrier, town, burn);
        Check.same(paid, foretold);
        return paid;
    }
}
