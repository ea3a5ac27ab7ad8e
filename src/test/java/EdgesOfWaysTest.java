import java.math.BigInteger;

/** The sentences of promises 19 to 22 that name an edge. */
final class EdgesOfWaysTest {
    // Reckoned once from the document alone, apart from the class and from wrapped().
    private static final long NEW_LAND = -5767914102403540947L;
    private static final long SMALL_LAND = -2428430436945913127L;

    /** "Throws IndexOutOfBoundsException if there is no such rumour or town, or what is not 0 to 1". */
    static void promise19NoSuchRumourTownOrQuestion() {
        RumourCustoms land = Lands.withRoad(0, 0);
        land.makeUp(0, 1, 1);
        land.makeUp(0, 2, 1);
        Check.refusesOutside(land, Check.NO_SUCH, 0, 1, rumour -> land.cheapest(rumour, 0, 1, 0));
        Check.refusesOutside(land, Check.NO_SUCH, 0, 1, from -> land.cheapest(0, from, 1, 0));
        Check.refusesOutside(land, Check.NO_SUCH, 0, 1, to -> land.cheapest(0, 0, to, 0));
        Check.refusesOutside(land, Check.NO_SUCH, 0, 1, what -> land.cheapest(0, 0, 1, what));
        Check.refusesOutside(land, Check.NO_SUCH, 0, 1, what -> land.cheapest(0, 0, 0, what));
        Check.same(land.cheapest(1, 0, 1, 0), 10);
    }

    /** "(0 if both towns are the same)": each town, with roads and without, in a land of 10. */
    static void promise19BothTownsAreTheSame() {
        RumourCustoms land = Lands.withTowns(10);
        for (int i = 0; i < 4; i++) {
            land.build(i, i + 1, 9, 20, 30, 9);
        }
        land.makeUp(9, 30, 0);
        for (int town = 0; town < 10; town++) {
            Check.same(land.cheapest(0, town, town, 0), 0);
            Check.same(land.cheapest(0, town, town, 1), 0);
        }
    }

    /** "-1 if there is no way": without any road, and between two parts of the land. */
    static void promise19NoWay() {
        RumourCustoms land = Lands.withTowns(10);
        land.makeUp(0, 1, 5);
        Check.same(land.cheapest(0, 0, 1, 0), -1);
        Check.same(land.cheapest(0, 0, 1, 1), -1);
        for (int i = 0; i < 9; i++) {
            if (i != 4) {
                land.build(i, i + 1, 1, 0, 0, 0);
            }
        }
        Check.same(land.cheapest(0, 4, 5, 0), -1);
        Check.same(land.cheapest(0, 9, 0, 1), -1);
        Check.same(land.cheapest(0, 4, 0, 1), 4);
        Check.same(land.cheapest(0, 5, 9, 1), 4);
        land.build(4, 5, 1, 0, 0, 0);
        Check.same(land.cheapest(0, 9, 0, 1), 9);
    }

    /** "of several that with the fewest hours": where duties are 0, and where proofs make them the same. */
    static void promise19TheFewestHours() {
        RumourCustoms land = Lands.withTowns(4);
        land.build(0, 1, 9, 1, 0, 0);
        land.build(0, 2, 1, 0, 0, 0);
        land.build(2, 1, 2, 1, 0, 0);
        land.build(0, 3, 1, 0, 0, 0);
        land.build(3, 2, 1, 0, 0, 0);
        land.makeUp(0, 1, 0);
        land.makeUp(0, 1, 1);
        Check.same(land.cheapest(0, 0, 1, 0), 1);
        Check.same(land.cheapest(0, 0, 1, 1), 3);
        Check.same(land.cheapest(1, 0, 1, 0), 0);
        Check.same(land.cheapest(1, 0, 1, 1), 3);
        Check.same(land.cheapest(0, 3, 2, 1), 1);
    }

    /** "the sum of all duties is the least": one less is worth all the hours. */
    static void promise19OneLessIsWorthAllTheHours() {
        RumourCustoms land = Lands.withTowns(10);
        for (int i = 0; i < 9; i++) {
            land.build(i, i + 1, 9, 0, 0, 0);
        }
        land.build(0, 9, 1, 1, 0, 0);
        land.makeUp(0, 1, 0);
        land.makeUp(0, 1, 1);
        Check.same(land.cheapest(0, 0, 9, 0), 0);
        Check.same(land.cheapest(0, 0, 9, 1), 81);
        Check.same(land.cheapest(1, 0, 9, 1), 1);
    }

    /** "as many of its proofs burnt at each gate as one likes (each of them once on the whole way)". */
    static void promise19EachProofOnce() {
        RumourCustoms land = Lands.withTowns(7);
        for (int i = 0; i < 6; i++) {
            land.build(i, i + 1, 1, 8, 0, 0);
        }
        for (int proofs = 0; proofs <= 5; proofs++) {
            land.makeUp(0, 1, proofs);
        }
        int[] overOne = {8, 4, 2, 1, 0, 0};
        int[] overTwo = {16, 12, 8, 6, 4, 3};
        int[] overSix = {48, 44, 40, 36, 32, 28};
        for (int proofs = 0; proofs <= 5; proofs++) {
            Check.same(land.cheapest(proofs, 0, 1, 0), overOne[proofs]);
            Check.same(land.cheapest(proofs, 0, 2, 0), overTwo[proofs]);
            Check.same(land.cheapest(proofs, 0, 6, 0), overSix[proofs]);
            Check.same(land.rumour(proofs, 2), proofs);
        }
    }

    /** "(wherever it is, also if it is gone; its depth stays what it is)", "a rumour alone, not hidden". */
    static void promise19WhereverItIs() {
        RumourCustoms land = Lands.withRoad(9, 1000);
        Lands.inBag(land, 0, 8, 2);
        Check.same(land.tell(0, 0), 1);
        Check.same(land.cheapest(1, 0, 1, 0), 87 / 4);
        land.take(0, 1);
        Check.same(land.cheapest(1, 0, 1, 0), 87 / 4);
        land.hide(0, 1, true);
        Check.same(land.cheapest(1, 0, 1, 0), 87 / 4);
        land.go(0, 1, 0);
        Check.same(land.rumour(1, 5), -1);
        Check.same(land.cheapest(1, 0, 1, 0), 87 / 4);
        Check.same(land.cheapest(1, 1, 0, 1), 3);
        Check.same(land.cheapest(0, 1, 0, 0), 20);
    }

    /** "also if it is gone": all ways of the land from the greatest depth that there can be. */
    static void promise19TheGreatestDepth() {
        RumourCustoms land = Lands.withDeepest();
        for (int i = 2; i < 10; i++) {
            land.addTown();
            land.build(i - 1, i, 9, 20, 30, 9);
        }
        int duty = 20 + 30 * 59;
        Check.same(land.cheapest(59, 1, 9, 0), 3 * duty + 5 * (duty / 2));
        Check.same(land.cheapest(59, 9, 1, 1), 72);
        Check.same(land.cheapest(59, 9, 0, 1), 73);
    }

    /** Questions leave nothing behind: the same one is answered the same after others. */
    static void promise19NothingIsLeftBehind() {
        RumourCustoms land = Lands.withTowns(4);
        land.build(0, 1, 2, 3, 0, 0);
        land.build(1, 2, 3, 4, 0, 0);
        land.makeUp(0, 10, 2);
        land.makeUp(0, 10, 0);
        long before = land.digest();
        Check.same(land.cheapest(0, 0, 2, 0), 35);
        Check.same(land.cheapest(1, 2, 0, 0), 70);
        Check.same(land.cheapest(0, 0, 3, 0), -1);
        Check.same(land.cheapest(0, 2, 2, 0), 0);
        Check.same(land.cheapest(0, 0, 2, 0), 35);
        Check.same(land.cheapest(0, 0, 2, 1), 5);
        Check.same(land.digest(), before);
    }

    /** "Throws IndexOutOfBoundsException if there is no such rumour, or what is not 0 to 2". */
    static void promise20NoSuchRumourOrQuestion() {
        RumourCustoms land = Lands.withTowns(1);
        Check.refusesOutside(land, Check.NO_SUCH, 0, -1, rumour -> land.spread(rumour, 0));
        land.makeUp(0, 1, 1);
        land.makeUp(0, 1, 1);
        Check.refusesOutside(land, Check.NO_SUCH, 0, 1, rumour -> land.spread(rumour, 0));
        Check.refusesOutside(land, Check.NO_SUCH, 0, 2, what -> land.spread(1, what));
    }

    /** "0 in how many towns its family is known": in all 10, and in none. */
    static void promise20InAllTownsAndInNone() {
        RumourCustoms land = Lands.withTowns(10);
        land.addCarrier(0, 1000000);
        Lands.inBag(land, 0, 1, 0);
        land.makeUp(9, 1, 0);
        for (int i = 0; i < 10; i++) {
            Check.same(land.spread(0, 0), i);
            land.tell(0, 0);
            if (i < 9) {
                land.build(i, i + 1, 1, 1, 1, 0);
                land.go(0, i + 1, 0);
                land.pass(1);
            }
        }
        Check.row(what -> land.spread(0, what), 10, 1, 11);
        Check.row(what -> land.spread(1, what), 1, 0, 1);
    }

    /** "1 the greatest depth of its family in towns, -1 if it is in none": in bags alone, and gone. */
    static void promise20InNoTown() {
        RumourCustoms land = Lands.withRoad(9, 1000);
        Lands.hidden(land, 0, 1, 0);
        land.makeUp(0, 1, 0);
        Check.row(what -> land.spread(0, what), 0, -1, 1);
        land.go(0, 1, 0);
        Check.row(what -> land.spread(0, what), 0, -1, 0);
        Check.row(what -> land.spread(1, what), 1, 0, 1);
    }

    /** "1 the greatest depth ... in towns": deeper ones in a bag do not count. */
    static void promise20DeeperOnesInABag() {
        RumourCustoms land = Lands.withTowns(1);
        land.addCarrier(0, 0);
        Lands.inBag(land, 0, 1, 0);
        land.tell(0, 0);
        land.take(0, 1);
        Check.row(what -> land.spread(0, what), 0, -1, 2);
        land.leave(0, 0);
        Check.row(what -> land.spread(1, what), 1, 0, 2);
        land.leave(0, 1);
        Check.row(what -> land.spread(1, what), 1, 1, 2);
    }

    /** "2 rumours of its family that are not gone": all 60 of them. */
    static void promise20All60() {
        RumourCustoms land = Lands.withDeepest();
        Check.same(land.spread(0, 2), 60);
        Check.same(land.spread(59, 2), 60);
        Check.same(land.spread(59, 0), 1);
    }

    /** "0 if there are none": without rumours, with such in bags alone, and with such as are gone alone. */
    static void promise21NoneInTowns() {
        Check.same(new RumourCustoms().hearsay(), 0.0);
        RumourCustoms land = Lands.withRoad(9, 1000);
        Lands.inBag(land, 0, 1, 0);
        land.tell(0, 0);
        land.take(0, 1);
        Check.same(land.hearsay(), 0.0);
        land.hide(0, 0, true);
        land.hide(0, 1, true);
        land.go(0, 1, 0);
        Check.same(land.count(4), 2);
        Check.same(land.hearsay(), 0.0);
    }

    /** "the mean depth of all rumours that are in towns": it is not cut, and 0 where none is deeper. */
    static void promise21TheMeanIsNotCut() {
        RumourCustoms land = Lands.withTowns(2);
        land.addCarrier(0, 0);
        Lands.inBag(land, 0, 1, 0);
        land.tell(0, 0);
        for (int i = 2; i < 60; i++) {
            land.makeUp(1, 1, 0);
            Check.same(land.hearsay(), 1.0 / i);
        }
        land.take(0, 1);
        Check.same(land.hearsay(), 0.0);
    }

    /** The mean of the greatest depths that there can be. */
    static void promise21TheMeanOfGreatDepths() {
        RumourCustoms land = Lands.withDeepest();
        int depths = 0;
        int there = 0;
        for (int i = 0; i < 60; i++) {
            boolean isThere = land.rumour(i, 4) >= 0;
            depths += isThere ? i : 0;
            there += isThere ? 1 : 0;
        }
        Check.same(land.hearsay(), (double) depths / there);
    }

    /** "A number d starts with 499", in a land where all numbers are 0: it has wrapped around by then. */
    static void promise22OfANewLand() {
        Check.same(new RumourCustoms().digest(), NEW_LAND);
        Check.same(wrapped(0, 0, 0, 0, 0, 0, 0, 0, 0, 0, 0), NEW_LAND);
    }

    /** "which wraps around as a 64-bit integer", with the numbers written out in their order. */
    static void promise22WrapsAround() {
        RumourCustoms land = Lands.withTowns(3);
        land.build(1, 2, 1, 2, 3, 4);
        land.build(2, 0, 4, 5, 6, 7);
        land.makeUp(1, 30, 5);
        land.addCarrier(2, 1000000);
        Check.same(land.digest(), SMALL_LAND);
        Check.same(land.digest(), wrapped(
                0, 3, 2, 1, 0, 1, 0, 0, 0, 0, 0,
                1, 4, 5, 6, 7, 0, 0,
                1, 1, 2, 3, 4, 0, 0,
                30, 0, 5, 0, 1, -1, 0,
                2, 0, 1000000, 0, 0, 0));
    }

    /** Numbers below 0 among them: -1 and -1 of a rumour that is gone, and a carrier on the way. */
    static void promise22OfAGoneRumour() {
        RumourCustoms land = Lands.withRoad(9, 1000);
        Lands.hidden(land, 0, 8, 2);
        land.go(0, 1, 0);
        land.pass(1);
        Check.same(land.digest(), wrapped(
                1, 2, 1, 1, 1, 1, 1, 0, 0, 240, 1,
                1, 3, 10, 7, 9, 0, 240,
                8, 0, 2, 0, -1, -1, 0,
                1, 2, 760, 0, 0, 240));
    }

    /** "for each pair of towns with a road": pairs without one, and the other direction, add nothing. */
    static void promise22OnlyPairsWithARoad() {
        RumourCustoms land = Lands.withTowns(10);
        Check.same(land.digest(), wrapped(0, 10, 0, 0, 0, 0, 0, 0, 0, 0, 0));
        land.build(9, 0, 1, 0, 0, 0);
        Check.same(land.digest(), wrapped(0, 10, 1, 0, 0, 0, 0, 0, 0, 0, 0, 1, 1, 0, 0, 0, 0, 0));
    }

    /** The checksum of numbers, without a wrap-around on the way, and cut to 64 bits at the end. */
    private static long wrapped(int... numbers) {
        BigInteger d = BigInteger.valueOf(499);
        for (int number : numbers) {
            d = d.multiply(BigInteger.valueOf(31)).add(BigInteger.valueOf(number));
        }
        return d.longValue();
    }
}
