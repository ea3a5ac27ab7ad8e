/** The sentences of promises 1 to 4 that name an edge, and those of the terms on towns and roads. */
final class EdgesOfTownsTest {
    /** "Creates a land without towns": a town cannot be named anywhere, and the first to come is 0. */
    static void promise1WithoutTowns() {
        RumourCustoms land = new RumourCustoms();
        Check.same(land.count(1), 0);
        Check.same(land.count(2), 0);
        Check.refuses(land, Check.NO_SUCH, () -> land.town(0, 0));
        Check.refuses(land, Check.NO_SUCH, () -> land.road(0, 0, 0));
        Check.refuses(land, Check.NO_SUCH, () -> land.build(0, 1, 1, 1, 1, 1));
        Check.refuses(land, Check.NO_SUCH, () -> land.makeUp(0, 1, 1));
        Check.refuses(land, Check.NO_SUCH, () -> land.addCarrier(0, 1));
        Check.same(land.addTown(), 0);
    }

    /** "Creates a land without ... rumours". */
    static void promise1WithoutRumours() {
        RumourCustoms land = Lands.withRoad(0, 100);
        Check.same(land.count(3), 0);
        Check.same(land.count(4), 0);
        Check.refuses(land, Check.NO_SUCH, () -> land.rumour(0, 0));
        Check.refuses(land, Check.NO_SUCH, () -> land.heard(0, 0));
        Check.refuses(land, Check.NO_SUCH, () -> land.take(0, 0));
        Check.refuses(land, Check.NO_SUCH, () -> land.cheapest(0, 0, 1, 0));
        Check.refuses(land, Check.NO_SUCH, () -> land.spread(0, 0));
        Check.same(land.makeUp(0, 1, 0), 0);
    }

    /** "Creates a land without ... carriers". */
    static void promise1WithoutCarriers() {
        RumourCustoms land = Lands.withTowns(2);
        land.makeUp(0, 1, 0);
        Check.same(land.count(5), 0);
        Check.same(land.count(6), 0);
        Check.refuses(land, Check.NO_SUCH, () -> land.carrier(0, 0));
        Check.refuses(land, Check.NO_SUCH, () -> land.take(0, 0));
        Check.refuses(land, Check.NO_SUCH, () -> land.leave(0, 0));
        Check.refuses(land, Check.NO_SUCH, () -> land.hide(0, 0, true));
        Check.refuses(land, Check.NO_SUCH, () -> land.tell(0, 0));
        Check.refuses(land, Check.NO_SUCH, () -> land.go(0, 1, 0));
        Check.refuses(land, Check.NO_SUCH, () -> land.wouldPay(0, 1, 0));
        Check.same(land.pass(100), 0);
        Check.same(land.addCarrier(0, 0), 0);
    }

    /** "... at the hour 0"; "Time is told in hours, from 0." */
    static void promise1AtTheHour0() {
        RumourCustoms land = new RumourCustoms();
        Check.same(land.count(0), 0);
        land.pass(1);
        Check.same(land.count(0), 1);
    }

    /** "Throws IllegalStateException if there are 10": the tenth is added, the eleventh never. */
    static void promise2FullWith10() {
        RumourCustoms land = Lands.withTowns(9);
        Check.same(land.addTown(), 9);
        for (int i = 0; i < 3; i++) {
            Check.refuses(land, Check.NOT_NOW, land::addTown);
        }
        Check.same(land.count(1), 10);
        Check.row(what -> land.town(9, what), 0, 0, -1, 0);
        Check.refuses(land, Check.NO_SUCH, () -> land.town(10, 0));
        Check.same(land.build(9, 0, 1, 1, 1, 1), 1);
    }

    /** "Throws IndexOutOfBoundsException if there is no such town". */
    static void promise3NoSuchTown() {
        RumourCustoms land = Lands.withTowns(9);
        Check.refusesOutside(land, Check.NO_SUCH, 0, 8, town -> land.build(town, 0, 1, 1, 1, 1));
        Check.refusesOutside(land, Check.NO_SUCH, 0, 8, town -> land.build(0, town, 1, 1, 1, 1));
        Check.same(land.build(8, 0, 1, 1, 1, 1), 1);
        land.addTown();
        Check.same(land.build(9, 0, 1, 1, 1, 1), 2);
        Check.refusesOutside(land, Check.NO_SUCH, 0, 9, town -> land.build(town, 1, 1, 1, 1, 1));
        Check.refusesOutside(land, Check.NO_SUCH, 0, 9, town -> land.build(1, town, 1, 1, 1, 1));
    }

    /** "Throws IllegalArgumentException if both are the same". */
    static void promise3BothAreTheSame() {
        RumourCustoms land = Lands.withTowns(10);
        for (int i = 0; i < 10; i++) {
            int town = i;
            Check.refuses(land, Check.BAD_NUMBER, () -> land.build(town, town, 1, 1, 1, 1));
            Check.same(land.road(town, town, 0), 0);
        }
        Check.same(land.count(2), 0);
    }

    /** "... hours is not 1 to 9"; "it takes 1 to 9 hours". */
    static void promise3HoursFrom1To9() {
        RumourCustoms land = Lands.withTowns(10);
        Check.refusesOutside(land, Check.BAD_NUMBER, 1, 9, hours -> land.build(0, 1, hours, 1, 1, 1));
        for (int hours = 1; hours <= 9; hours++) {
            Check.same(land.build(0, hours, hours, 1, 1, 1), hours);
            Check.same(land.road(hours, 0, 1), hours);
        }
    }

    /** "... tariff is not 0 to 20"; "with a tariff, 0 to 20". */
    static void promise3TariffFrom0To20() {
        RumourCustoms land = Lands.withTowns(3);
        Check.refusesOutside(land, Check.BAD_NUMBER, 0, 20, tariff -> land.build(0, 1, 1, tariff, 1, 1));
        Check.same(land.build(0, 1, 1, 0, 1, 1), 1);
        Check.same(land.build(0, 2, 1, 20, 1, 1), 2);
        Check.same(land.road(0, 1, 2), 0);
        Check.same(land.road(0, 2, 2), 20);
    }

    /** "... surcharge is not 0 to 30"; "a surcharge, 0 to 30". */
    static void promise3SurchargeFrom0To30() {
        RumourCustoms land = Lands.withTowns(3);
        Check.refusesOutside(land, Check.BAD_NUMBER, 0, 30, surcharge -> land.build(0, 1, 1, 1, surcharge, 1));
        Check.same(land.build(0, 1, 1, 1, 0, 1), 1);
        Check.same(land.build(0, 2, 1, 1, 30, 1), 2);
        Check.same(land.road(0, 1, 3), 0);
        Check.same(land.road(0, 2, 3), 30);
    }

    /** "... or strictness is not 0 to 9"; "a strictness, 0 to 9". */
    static void promise3StrictnessFrom0To9() {
        RumourCustoms land = Lands.withTowns(3);
        Check.refusesOutside(land, Check.BAD_NUMBER, 0, 9, strictness -> land.build(0, 1, 1, 1, 1, strictness));
        Check.same(land.build(0, 1, 1, 1, 1, 0), 1);
        Check.same(land.build(0, 2, 1, 1, 1, 9), 2);
        Check.same(land.road(0, 1, 4), 0);
        Check.same(land.road(0, 2, 4), 9);
    }

    /** "its attention is 0 at first": whatever its strictness is. */
    static void promise3TheAttentionIs0AtFirst() {
        RumourCustoms land = Lands.withTowns(10);
        for (int strictness = 0; strictness <= 8; strictness++) {
            land.build(strictness, 9, 1, 20, 30, strictness);
            Check.same(land.road(9, strictness, 5), 0);
        }
    }

    /** "Throws IllegalStateException if there is a road between them": for both directions, in a full land. */
    static void promise3ThereIsARoadBetweenThem() {
        RumourCustoms land = Lands.withTowns(10);
        for (int a = 0; a < 10; a++) {
            for (int b = a + 1; b < 10; b++) {
                land.build(a, b, 9, 20, 30, 9);
            }
        }
        Check.same(land.count(2), 45);
        for (int i = 0; i < 10; i++) {
            int a = i;
            int b = (i + 3) % 10;
            Check.refuses(land, Check.NOT_NOW, () -> land.build(a, b, 1, 1, 1, 1));
            Check.refuses(land, Check.NOT_NOW, () -> land.build(b, a, 1, 1, 1, 1));
            Check.row(what -> land.road(a, b, what), 1, 9, 20, 30, 9, 0, 0);
        }
        Check.same(land.count(2), 45);
    }

    /** "Returns the number of roads": one that was refused is none. */
    static void promise3ARefusedRoadIsNotCounted() {
        RumourCustoms land = Lands.withTowns(3);
        Check.same(land.build(0, 1, 1, 1, 1, 1), 1);
        Check.refuses(land, Check.NOT_NOW, () -> land.build(1, 0, 1, 1, 1, 1));
        Check.refuses(land, Check.BAD_NUMBER, () -> land.build(0, 2, 0, 1, 1, 1));
        Check.refuses(land, Check.NO_SUCH, () -> land.build(0, 3, 1, 1, 1, 1));
        Check.same(land.build(0, 2, 1, 1, 1, 1), 2);
    }

    /** "Throws IndexOutOfBoundsException if there is no such town, or what is not 0 to 6". */
    static void promise4NoSuchTownOrQuestion() {
        RumourCustoms land = Lands.withRoad(0, 0);
        Check.refusesOutside(land, Check.NO_SUCH, 0, 1, town -> land.road(town, 0, 0));
        Check.refusesOutside(land, Check.NO_SUCH, 0, 1, town -> land.road(0, town, 0));
        Check.refusesOutside(land, Check.NO_SUCH, 0, 6, what -> land.road(0, 1, what));
        Check.refusesOutside(land, Check.NO_SUCH, 0, 6, what -> land.road(0, 0, what));
    }

    /** "0 1 if there is a road, else 0": not from a town to itself, and not to a town beyond the next. */
    static void promise4OneIfThereIsARoad() {
        RumourCustoms land = Lands.withTowns(10);
        land.build(0, 9, 1, 1, 1, 1);
        land.build(9, 8, 1, 1, 1, 1);
        for (int a = 0; a < 10; a++) {
            for (int b = 0; b < 10; b++) {
                boolean isThere = a + b == 9 && a * b == 0 || a + b == 17;
                Check.same(land.road(a, b, 0), isThere ? 1 : 0);
            }
        }
    }

    /** "(1 to 6: 0 without a road)". */
    static void promise4AllIs0WithoutARoad() {
        RumourCustoms land = Lands.withTowns(4);
        land.build(0, 1, 9, 20, 30, 9);
        land.build(1, 2, 9, 20, 30, 9);
        land.addCarrier(0, 1000);
        Lands.inBag(land, 0, 5, 0);
        land.go(0, 1, 0);
        Check.row(what -> land.road(0, 1, what), 1, 9, 20, 30, 9, 9, 100);
        Check.row(what -> land.road(0, 2, what), 0, 0, 0, 0, 0, 0, 0);
        Check.row(what -> land.road(2, 0, what), 0, 0, 0, 0, 0, 0, 0);
        Check.row(what -> land.road(1, 3, what), 0, 0, 0, 0, 0, 0, 0);
        Check.row(what -> land.road(1, 1, what), 0, 0, 0, 0, 0, 0, 0);
        Check.row(what -> land.road(3, 3, what), 0, 0, 0, 0, 0, 0, 0);
    }

    /** "6 duties and fines that were paid there": of a fine as much as the purse held, from both directions. */
    static void promise4WhatWasPaidThere() {
        RumourCustoms land = Lands.withRoad(9, 100);
        land.addTown();
        land.build(1, 2, 1, 1, 0, 0);
        Lands.inBag(land, 0, 5, 0);
        Check.same(land.go(0, 1, 0), 50);
        Check.same(land.road(0, 1, 6), 50);
        land.pass(3);
        Check.same(land.go(0, 2, 0), 5);
        land.pass(1);
        land.go(0, 1, 0);
        land.pass(1);
        Check.same(land.road(1, 2, 6), 10);
        land.hide(0, 0, true);
        Check.same(land.go(0, 0, 0), 40);
        Check.same(land.road(1, 0, 6), 90);
        Check.same(land.road(2, 1, 6), 10);
    }

    /** "An object is used for at most 512 calls": the last of them is answered like the first. */
    static void the512thCallIsAnsweredAsWell() {
        RumourCustoms land = Lands.withRoad(3, 1000000);
        Lands.inBag(land, 0, 30, 0);
        // 7 calls so far; 251 journeys of 2 calls each, and 3 questions, make 512.
        for (int i = 1; i <= 251; i++) {
            Check.same(land.go(0, i % 2, 0), 300);
            Check.same(land.pass(100), 1);
        }
        Check.same(land.road(0, 1, 6), 251 * 300);
        Check.same(land.carrier(0, 2), 1000000 - 251 * 300);
        Check.same(land.count(0), 25100);
    }
}
