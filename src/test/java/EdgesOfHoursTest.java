/** The sentences of promises 17 and 18 that name an edge. */
final class EdgesOfHoursTest {
    /** "Throws IllegalArgumentException if hours is not 1 to 100": on the way too, no hour goes by. */
    static void promise17HoursFrom1To100() {
        RumourCustoms land = Lands.withRoad(0, 0);
        land.go(0, 1, 0);
        Check.refusesOutside(land, Check.BAD_NUMBER, 1, 100, land::pass);
        Check.refuses(land, Check.BAD_NUMBER, () -> land.pass(-100));
        Check.same(land.count(0), 0);
        Check.same(land.carrier(0, 1), 3);
        Check.same(land.pass(1), 0);
        Check.same(land.pass(100), 1);
        Check.same(land.count(0), 101);
    }

    /** "Returns how many carriers have come to towns in them": in the very last hour, not one before. */
    static void promise17InTheLastHour() {
        for (int hours = 1; hours <= 9; hours++) {
            RumourCustoms land = Lands.withTowns(2);
            land.build(0, 1, hours, 0, 0, 0);
            land.addCarrier(0, 0);
            land.go(0, 1, 0);
            if (hours > 1) {
                Check.same(land.pass(hours - 1), 0);
            }
            Check.same(land.pass(1), 1);
            Check.same(land.pass(1), 0);
        }
    }

    /** None of them: without carriers, and with such as are in towns. */
    static void promise17NoneComes() {
        RumourCustoms land = Lands.withTowns(1);
        Check.same(land.pass(100), 0);
        land.addCarrier(0, 0);
        Check.same(land.pass(100), 0);
        Check.same(land.carrier(0, 0), 0);
    }

    /** All 8 of them, some long before the hours have gone by; each comes once. */
    static void promise17All8Come() {
        RumourCustoms land = Lands.withTowns(9);
        for (int i = 0; i < 8; i++) {
            land.build(8, i, i + 1, 0, 0, 0);
            land.addCarrier(8, 0);
            land.go(i, i, 0);
        }
        Check.same(land.count(6), 8);
        Check.same(land.pass(8), 8);
        Check.same(land.count(6), 0);
        Check.same(land.pass(8), 0);
        for (int i = 0; i < 8; i++) {
            Check.same(land.town(i, 3), 1);
            Check.same(land.carrier(i, 1), 0);
        }
    }

    /** "Throws IndexOutOfBoundsException if what is not 0 to 10". */
    static void promise18WhatFrom0To10() {
        RumourCustoms land = Lands.withRoad(0, 0);
        Check.refusesOutside(land, Check.NO_SUCH, 0, 10, land::count);
        Check.same(land.count(0), 0);
        Check.same(land.count(10), 0);
    }

    /** "4 those that are gone": none, some, all; they stay rumours. */
    static void promise18ThoseThatAreGone() {
        RumourCustoms land = Lands.withRoad(9, 1000);
        Check.same(land.count(4), 0);
        for (int i = 0; i < 6; i++) {
            Lands.hidden(land, 0, 1, 0);
        }
        Check.same(land.count(4), 0);
        land.go(0, 1, 0);
        Check.same(land.count(4), 6);
        Check.same(land.count(3), 6);
    }

    /** "6 carriers that are on the way": none, one, all 8, and none again. */
    static void promise18OnTheWay() {
        RumourCustoms land = Lands.withRoad(0, 0);
        Check.same(land.count(6), 0);
        for (int i = 1; i < 8; i++) {
            land.addCarrier(0, 0);
        }
        for (int i = 0; i < 8; i++) {
            land.go(i, 1, 0);
            Check.same(land.count(6), i + 1);
        }
        land.pass(2);
        Check.same(land.count(6), 8);
        land.pass(1);
        Check.same(land.count(6), 0);
        Check.same(land.count(5), 8);
    }

    /** "7 proofs that were burnt": those that there were, not those that were to be burnt; none when refused. */
    static void promise18ProofsThatWereBurnt() {
        RumourCustoms land = Lands.withRoad(0, 60);
        Lands.inBag(land, 0, 10, 2);
        Lands.hidden(land, 0, 10, 5);
        Check.refuses(land, Check.NOT_NOW, () -> land.go(0, 1, 0));
        Check.same(land.wouldPay(0, 1, 5), 25);
        Check.same(land.cheapest(0, 0, 1, 0), 25);
        Check.same(land.count(7), 0);
        land.go(0, 1, 5);
        Check.same(land.count(7), 2);
    }

    /** "8 duties and 9 fines that were paid": of a fine what the purse held. */
    static void promise18WhatWasPaid() {
        RumourCustoms land = Lands.withRoad(9, 75);
        Lands.inBag(land, 0, 5, 0);
        Lands.hidden(land, 0, 1, 0);
        Check.same(land.count(8), 0);
        Check.same(land.count(9), 0);
        land.go(0, 1, 0);
        Check.same(land.count(8), 50);
        Check.same(land.count(9), 25);
        land.addCarrier(0, 1000);
        Lands.inBag(land, 1, 5, 0);
        Lands.hidden(land, 1, 1, 0);
        land.go(1, 1, 0);
        Check.same(land.count(8), 50 + 50);
        Check.same(land.count(9), 25 + 30);
    }

    /** "10 how often carriers were searched": also when nothing was found. */
    static void promise18HowOftenSearched() {
        RumourCustoms land = Lands.withRoad(9, 1000);
        int[] searches = {0, 1, 2, 3, 4, 5, 6, 7, 8, 9, 9, 10};
        for (int i = 0; i < searches.length; i++) {
            land.go(0, 1 - i % 2, 0);
            land.pass(3);
            Check.same(land.count(10), searches[i]);
        }
    }
}
