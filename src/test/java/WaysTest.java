import java.util.function.IntBinaryOperator;

/** Promises 19 to 22. */
final class WaysTest {
    static void promise19TheLeastDuty() {
        RumourCustoms land = Lands.withTowns(4);
        land.build(0, 1, 9, 1, 0, 9);
        land.build(1, 2, 9, 1, 0, 9);
        land.build(0, 2, 1, 3, 0, 0);
        land.makeUp(3, 5, 0);
        Check.same(land.cheapest(0, 0, 2, 0), 10);
        Check.same(land.cheapest(0, 0, 2, 1), 18);
        Check.same(land.cheapest(0, 2, 0, 0), 10);
        Check.same(land.cheapest(0, 2, 0, 1), 18);
    }

    static void promise19OfSeveralThatWithTheFewestHours() {
        RumourCustoms land = Lands.withTowns(4);
        land.build(0, 1, 2, 1, 0, 0);
        land.build(1, 3, 2, 1, 0, 0);
        land.build(0, 2, 1, 1, 0, 0);
        land.build(2, 3, 2, 1, 0, 0);
        land.build(0, 3, 4, 2, 0, 0);
        land.makeUp(0, 30, 0);
        Check.same(land.cheapest(0, 0, 3, 0), 60);
        Check.same(land.cheapest(0, 0, 3, 1), 3);
    }

    static void promise19EachProofIsBurntOnceOnTheWholeWay() {
        RumourCustoms land = Lands.withTowns(3);
        land.build(0, 1, 1, 10, 0, 0);
        land.build(1, 2, 1, 10, 0, 0);
        for (int proofs = 0; proofs <= 5; proofs++) {
            land.makeUp(0, 10, proofs);
        }
        Check.same(land.cheapest(0, 0, 2, 0), 200);
        Check.same(land.cheapest(1, 0, 2, 0), 150);
        Check.same(land.cheapest(2, 0, 2, 0), 100);
        Check.same(land.cheapest(3, 0, 2, 0), 75);
        Check.same(land.cheapest(4, 0, 2, 0), 50);
        Check.same(land.cheapest(5, 0, 2, 0), 37);
        Check.same(land.cheapest(5, 0, 1, 0), 3);
    }

    static void promise19ProofsMakeAnotherWayTheCheapest() {
        RumourCustoms land = Lands.withTowns(3);
        land.build(0, 1, 1, 3, 0, 0);
        land.build(1, 2, 1, 3, 0, 0);
        land.build(0, 2, 7, 8, 0, 0);
        land.makeUp(0, 10, 0);
        land.makeUp(0, 10, 3);
        Check.same(land.cheapest(0, 0, 2, 0), 60);
        Check.same(land.cheapest(0, 0, 2, 1), 2);
        Check.same(land.cheapest(1, 0, 2, 0), 10);
        Check.same(land.cheapest(1, 0, 2, 1), 7);
    }

    static void promise19TheSurchargeIsByTheDepth() {
        RumourCustoms land = Lands.withTowns(3);
        land.build(0, 1, 1, 0, 30, 0);
        land.build(0, 2, 1, 20, 0, 0);
        land.build(2, 1, 1, 20, 0, 0);
        Lands.tellOn(land, 13);
        Check.same(land.cheapest(0, 0, 1, 0), 0);
        Check.same(land.cheapest(13, 1, 0, 1), 1);
        // The road of 390, cut in half three times, is less than 160 and 160 with three proofs burnt.
        Check.same(land.cheapest(13, 0, 1, 0), 48);
        Check.same(land.cheapest(13, 0, 2, 0), 20);
    }

    static void promise19TheProofsThatAreLeft() {
        RumourCustoms land = Lands.withRoad(0, 1000);
        Lands.inBag(land, 0, 8, 2);
        Check.same(land.cheapest(0, 0, 1, 0), 20);
        land.go(0, 1, 1);
        Check.same(land.cheapest(0, 0, 1, 0), 40);
    }

    static void promise19WhereverTheRumourIs() {
        RumourCustoms land = Lands.withRoad(9, 1000);
        Lands.hidden(land, 0, 8, 2);
        Check.same(land.cheapest(0, 1, 0, 0), 20);
        land.go(0, 1, 0);
        Check.same(land.count(4), 1);
        Check.same(land.cheapest(0, 1, 0, 0), 20);
        Check.same(land.cheapest(0, 1, 0, 1), 3);
    }

    static void promise19NoWayAndTheSameTown() {
        RumourCustoms land = Lands.withTowns(10);
        land.build(0, 1, 1, 1, 1, 1);
        land.build(8, 9, 1, 1, 1, 1);
        land.makeUp(0, 8, 5);
        Check.same(land.cheapest(0, 0, 9, 0), -1);
        Check.same(land.cheapest(0, 0, 9, 1), -1);
        Check.same(land.cheapest(0, 5, 0, 0), -1);
        Check.same(land.cheapest(0, 5, 5, 0), 0);
        Check.same(land.cheapest(0, 5, 5, 1), 0);
        Check.same(land.cheapest(0, 1, 1, 1), 0);
    }

    static void promise19TheDearestAndLongestWay() {
        RumourCustoms land = Lands.withTowns(10);
        for (int i = 0; i < 9; i++) {
            land.build(i, i + 1, 9, 20, 30, 9);
        }
        Lands.tellOn(land, 47);
        Check.same(land.cheapest(47, 0, 9, 1), 81);
        Check.same(land.cheapest(47, 9, 0, 0), 6 * 1570 + 3 * 785);
    }

    static void promise19WrongNumbers() {
        RumourCustoms land = Lands.withRoad(0, 0);
        land.makeUp(0, 1, 1);
        Check.refuses(land, Check.NO_SUCH, () -> land.cheapest(1, 0, 1, 0));
        Check.refuses(land, Check.NO_SUCH, () -> land.cheapest(-1, 0, 1, 0));
        Check.refuses(land, Check.NO_SUCH, () -> land.cheapest(0, 2, 1, 0));
        Check.refuses(land, Check.NO_SUCH, () -> land.cheapest(0, -1, 1, 0));
        Check.refuses(land, Check.NO_SUCH, () -> land.cheapest(0, 0, 2, 0));
        Check.refuses(land, Check.NO_SUCH, () -> land.cheapest(0, 0, -1, 0));
        Check.refuses(land, Check.NO_SUCH, () -> land.cheapest(0, 2, 2, 0));
        Check.refuses(land, Check.NO_SUCH, () -> land.cheapest(0, 0, 1, 2));
        Check.refuses(land, Check.NO_SUCH, () -> land.cheapest(0, 0, 1, -1));
    }

    /** Every way without a town twice, with every division of the proofs, is tried in small lands. */
    static void promise19AgreesWithAllWaysTried() {
        Dice dice = new Dice(7);
        for (int round = 0; round < 150; round++) {
            int towns = 2 + dice.below(5);
            RumourCustoms land = Lands.withTowns(towns);
            for (int a = 0; a < towns; a++) {
                for (int b = a + 1; b < towns; b++) {
                    if (dice.below(3) != 0) {
                        land.build(a, b, 1 + dice.below(9), dice.below(6), dice.below(8), 0);
                    }
                }
            }
            Lands.tellOn(land, 3);
            land.makeUp(0, 1 + dice.below(30), dice.below(6));
            for (int rumour = 3; rumour <= 4; rumour++) {
                int to = dice.below(towns);
                AllWays ways = new AllWays(land, rumour, to);
                int due = ways.least(0, land.rumour(rumour, 2), 1);
                Check.same(land.cheapest(rumour, 0, to, 0), due < 0 ? -1 : due / 100);
                Check.same(land.cheapest(rumour, 0, to, 1), due < 0 ? -1 : due % 100);
            }
        }
    }

    /** All ways of a rumour to a town, over roads that are asked for once: an object has 512 calls. */
    private static final class AllWays {
        private final int to;
        private final int[][] hours;
        private final int[][] duties;

        AllWays(RumourCustoms land, int rumour, int to) {
            this.to = to;
            int towns = land.count(1);
            int length = land.rumour(rumour, 0);
            int depth = land.rumour(rumour, 1);
            hours = new int[towns][towns];
            duties = new int[towns][towns];
            for (int a = 0; a < towns; a++) {
                for (int b = a + 1; b < towns; b++) {
                    hours[a][b] = land.road(a, b, 1);
                    hours[b][a] = hours[a][b];
                    duties[a][b] = land.road(a, b, 2) * length + land.road(a, b, 3) * depth;
                    duties[b][a] = duties[a][b];
                }
            }
        }

        /** 100 times the duties, and the hours, of the best way that goes on from here; -1 without one. */
        int least(int here, int proofs, int seen) {
            if (here == to) {
                return 0;
            }
            int least = -1;
            for (int next = 0; next < hours.length; next++) {
                if (hours[here][next] == 0 || (seen >> next & 1) == 1) {
                    continue;
                }
                int duty = duties[here][next];
                for (int burnt = 0; burnt <= proofs; burnt++) {
                    int rest = least(next, proofs - burnt, seen | 1 << next);
                    int all = duty * 100 + hours[here][next] + rest;
                    if (rest >= 0 && (least < 0 || all < least)) {
                        least = all;
                    }
                    duty /= 2;
                }
            }
            return least;
        }
    }

    static void promise20HowFarAFamilyHasCome() {
        RumourCustoms land = Lands.withRoad(9, 1000);
        land.makeUp(0, 1, 0);
        Lands.hidden(land, 0, 1, 0);
        Check.row(what -> land.spread(1, what), 0, -1, 1);
        land.tell(0, 1);
        Check.row(what -> land.spread(1, what), 1, 1, 2);
        Check.row(what -> land.spread(2, what), 1, 1, 2);
        land.take(0, 2);
        land.tell(0, 2);
        Check.row(what -> land.spread(1, what), 1, 2, 3);
        land.go(0, 1, 0);
        Check.row(what -> land.spread(1, what), 1, 2, 2);
        land.pass(3);
        land.leave(0, 2);
        Check.row(what -> land.spread(1, what), 2, 2, 2);
        Check.row(what -> land.spread(3, what), 2, 2, 2);
        Check.row(what -> land.spread(0, what), 1, 0, 1);
    }

    static void promise20SeveralInOneTownAreOneTown() {
        RumourCustoms land = Lands.withTowns(3);
        land.addCarrier(2, 0);
        Lands.inBag(land, 0, 1, 0);
        land.tell(0, 0);
        land.leave(0, 0);
        Check.row(what -> land.spread(0, what), 1, 1, 2);
    }

    static void promise20WrongQuestions() {
        RumourCustoms land = Lands.withTowns(1);
        land.makeUp(0, 1, 1);
        Check.refuses(land, Check.NO_SUCH, () -> land.spread(1, 0));
        Check.refuses(land, Check.NO_SUCH, () -> land.spread(-1, 0));
        Check.refuses(land, Check.NO_SUCH, () -> land.spread(0, -1));
        Check.refuses(land, Check.NO_SUCH, () -> land.spread(0, 3));
    }

    static void promise21TheMeanDepthInTowns() {
        RumourCustoms land = Lands.withRoad(9, 1000);
        Check.same(land.hearsay(), 0.0);
        Lands.hidden(land, 0, 1, 0);
        Check.same(land.hearsay(), 0.0);
        land.tell(0, 0);
        Check.same(land.hearsay(), 1.0);
        land.makeUp(1, 1, 0);
        Check.same(land.hearsay(), 0.5);
        land.makeUp(1, 1, 0);
        Check.same(land.hearsay(), 1.0 / 3.0);
        land.take(0, 1);
        land.tell(0, 1);
        Check.same(land.hearsay(), 2.0 / 3.0);
        land.go(0, 1, 0);
        Check.same(land.count(4), 1);
        Check.same(land.hearsay(), 2.0 / 3.0);
    }

    static void promise21TheFirstAndTheLastRumourCount() {
        RumourCustoms land = Lands.withTowns(1);
        land.makeUp(0, 1, 0);
        land.addCarrier(0, 0);
        Lands.inBag(land, 0, 1, 0);
        land.tell(0, 1);
        Check.same(land.hearsay(), 0.5);
    }

    static void promise22OfANewLand() {
        long d = 499;
        for (int i = 0; i < 11; i++) {
            d *= 31;
        }
        Check.same(new RumourCustoms().digest(), d);
    }

    static void promise22IsMadeOfAllThatIsTold() {
        RumourCustoms land = Lands.withTowns(5);
        land.build(4, 2, 1, 3, 5, 7);
        land.build(3, 0, 2, 4, 6, 9);
        land.build(0, 1, 3, 5, 7, 2);
        land.build(2, 3, 4, 6, 8, 3);
        Check.same(land.digest(), digestOf(land));
        land.addCarrier(3, 500);
        land.addCarrier(1, 700);
        Lands.inBag(land, 0, 4, 3);
        Lands.hidden(land, 0, 5, 2);
        Lands.hidden(land, 1, 6, 1);
        land.makeUp(4, 7, 0);
        land.tell(0, 0);
        Check.same(land.digest(), digestOf(land));
        land.go(0, 0, 2);
        land.go(1, 0, 1);
        land.pass(2);
        Check.same(land.count(4), 1);
        Check.same(land.count(6), 1);
        Check.same(land.digest(), digestOf(land));
    }

    static long digestOf(RumourCustoms land) {
        int towns = land.count(1);
        int rumours = land.count(3);
        int carriers = land.count(5);
        long d = digestOf(499, 10, (none, what) -> land.count(what), 0);
        for (int a = 0; a < towns; a++) {
            for (int b = a + 1; b < towns; b++) {
                int smaller = a;
                if (land.road(a, b, 0) == 1) {
                    d = digestOf(d, 6, (greater, what) -> land.road(smaller, greater, what), b);
                }
            }
        }
        for (int i = 0; i < rumours; i++) {
            d = digestOf(d, 6, land::rumour, i);
        }
        for (int i = 0; i < carriers; i++) {
            d = digestOf(d, 5, land::carrier, i);
        }
        return d;
    }

    private static long digestOf(long start, int last, IntBinaryOperator told, int number) {
        long d = start;
        for (int what = 0; what <= last; what++) {
            d = d * 31 + told.applyAsInt(number, what);
        }
        return d;
    }
}
