/** Promises 14 and 16. */
final class JourneysTest {
    static void promise14DutiesByLengthAndDepth() {
        RumourCustoms land = Lands.withTowns(2);
        land.build(0, 1, 3, 10, 7, 0);
        Lands.tellOn(land, 7);
        // Carrier 1 has those of the depths 6 and 7, each 8 words long.
        Check.same(land.wouldPay(1, 1, 0), 80 + 42 + 80 + 49);
        Check.same(land.wouldPay(1, 1, 1), 61 + 64);
        Check.same(land.wouldPay(1, 1, 2), 30 + 32);
        Check.same(land.wouldPay(1, 1, 3), 15 + 16);
        Check.same(land.wouldPay(1, 1, 4), 15 + 16);
        Check.same(land.go(1, 1, 3), 15 + 16);
        Check.same(land.count(7), 6);
        Check.same(land.rumour(6, 2), 0);
        Check.same(land.rumour(7, 2), 0);
        Check.same(land.rumour(5, 2), 3);
        Check.same(land.count(8), 31);
    }

    static void promise14NoMoreProofsAreBurntThanThereAre() {
        RumourCustoms land = Lands.withRoad(0, 1000);
        Lands.inBag(land, 0, 10, 0);
        Lands.inBag(land, 0, 10, 2);
        Lands.inBag(land, 0, 10, 5);
        Check.same(land.go(0, 1, 3), 100 + 25 + 12);
        Check.same(land.rumour(0, 2), 0);
        Check.same(land.rumour(1, 2), 0);
        Check.same(land.rumour(2, 2), 2);
        Check.same(land.count(7), 5);
    }

    static void promise14ProofsAreBurntWhereNothingIsOwed() {
        RumourCustoms land = Lands.withTowns(2);
        land.build(0, 1, 1, 0, 30, 0);
        land.addCarrier(0, 0);
        Lands.inBag(land, 0, 30, 5);
        Check.same(land.go(0, 1, 4), 0);
        Check.same(land.rumour(0, 2), 1);
        Check.same(land.count(7), 4);
    }

    static void promise14HiddenOnesPayAndBurnNothing() {
        RumourCustoms land = Lands.withRoad(8, 1000);
        Lands.hidden(land, 0, 10, 5);
        Lands.inBag(land, 0, 1, 1);
        Check.same(land.go(0, 1, 1), 5);
        Check.same(land.rumour(0, 2), 5);
        Check.same(land.rumour(0, 6), 1);
        Check.same(land.count(7), 1);
        Check.same(land.count(10), 0);
        Check.same(land.road(0, 1, 5), 9);
    }

    static void promise14ASearchFrom10On() {
        RumourCustoms land = Lands.withRoad(8, 1000);
        Lands.hidden(land, 0, 10, 5);
        Lands.hidden(land, 0, 3, 0);
        Lands.inBag(land, 0, 2, 1);
        Check.same(land.wouldPay(0, 1, 1), 10 + 3 * (100 + 30));
        Check.same(land.go(0, 1, 1), 10 + 3 * (100 + 30));
        Check.same(land.road(0, 1, 5), 0);
        Check.same(land.road(0, 1, 6), 400);
        Check.row(what -> land.carrier(0, what), 1, 3, 600, 1, 0, 400);
        Check.row(land::count, 0, 2, 1, 3, 2, 1, 1, 1, 10, 390, 1);
        // Proofs of what was found are not burnt.
        Check.same(land.rumour(0, 2), 5);
        Check.row(what -> land.rumour(2, what), 2, 0, 0, 2, -1, 0, 0);
    }

    static void promise14ASearchThatFindsNothing() {
        RumourCustoms land = Lands.withRoad(9, 10);
        land.go(0, 1, 0);
        land.pass(3);
        Lands.inBag(land, 0, 1, 0);
        Check.same(land.go(0, 0, 0), 10);
        Check.same(land.count(10), 1);
        Check.same(land.count(9), 0);
        Check.same(land.road(0, 1, 5), 8);
        Check.same(land.rumour(0, 5), 0);
    }

    static void promise14TheAttentionCanStayAbove10() {
        RumourCustoms land = Lands.withRoad(9, 1000000);
        int due = 0;
        for (int i = 0; i < 9; i++) {
            for (int k = 0; k < 6; k++) {
                Lands.hidden(land, 0, 1, 0);
            }
            due += 5;
            Check.same(land.go(0, 1 - i % 2, 0), 180);
            Check.same(land.road(0, 1, 5), due);
            land.pass(3);
        }
        Check.same(land.count(4), 54);
        land.go(0, 0, 0);
        Check.same(land.road(0, 1, 5), 44);
        Check.same(land.count(10), 10);
    }

    static void promise14AFineIsAtMostThePurse() {
        RumourCustoms land = Lands.withRoad(9, 75);
        Lands.inBag(land, 0, 5, 0);
        Lands.hidden(land, 0, 1, 0);
        Check.same(land.wouldPay(0, 1, 0), 75);
        Check.same(land.go(0, 1, 0), 75);
        Check.same(land.carrier(0, 2), 0);
        Check.same(land.count(8), 50);
        Check.same(land.count(9), 25);
    }

    static void promise14AFineThatThePurseJustHolds() {
        RumourCustoms land = Lands.withRoad(9, 80);
        Lands.inBag(land, 0, 5, 0);
        Lands.hidden(land, 0, 1, 0);
        Check.same(land.go(0, 1, 0), 80);
        Check.same(land.count(9), 30);
    }

    static void promise14OtherBagsAndTownsDoNotMatter() {
        RumourCustoms land = Lands.withRoad(0, 1000);
        land.addCarrier(0, 1000);
        Lands.inBag(land, 1, 30, 5);
        Lands.hidden(land, 1, 30, 5);
        land.makeUp(0, 30, 5);
        Check.same(land.go(0, 1, 5), 0);
        Check.same(land.road(0, 1, 5), 0);
        Check.same(land.count(7), 0);
        Check.same(land.carrier(1, 2), 1000);
        Check.same(land.carrier(1, 3), 2);
    }

    static void promise14ThePurseMustHoldWhatIsOwed() {
        RumourCustoms land = Lands.withRoad(9, 49);
        Lands.inBag(land, 0, 10, 2);
        Lands.hidden(land, 0, 1, 0);
        Check.refuses(land, Check.NOT_NOW, () -> land.go(0, 1, 0));
        Check.refuses(land, Check.NOT_NOW, () -> land.go(0, 1, 1));
        Check.same(land.rumour(0, 2), 2);
        Check.same(land.road(0, 1, 5), 0);
        Check.same(land.go(0, 1, 2), 49);
        RumourCustoms other = Lands.withRoad(0, 50);
        Lands.inBag(other, 0, 10, 2);
        Check.same(other.go(0, 1, 1), 50);
        Check.same(other.carrier(0, 2), 0);
    }

    static void promise14NoRoadOrOnTheWay() {
        RumourCustoms land = Lands.withTowns(3);
        land.build(0, 1, 2, 1, 1, 1);
        land.addCarrier(0, 100);
        Check.refuses(land, Check.NOT_NOW, () -> land.go(0, 2, 0));
        Check.refuses(land, Check.NOT_NOW, () -> land.go(0, 0, 0));
        land.go(0, 1, 0);
        Check.refuses(land, Check.NOT_NOW, () -> land.go(0, 0, 0));
        land.pass(1);
        Check.refuses(land, Check.NOT_NOW, () -> land.go(0, 0, 0));
        land.pass(1);
        Check.same(land.go(0, 0, 0), 0);
    }

    static void promise14WrongNumbers() {
        RumourCustoms land = Lands.withRoad(0, 0);
        Check.refuses(land, Check.NO_SUCH, () -> land.go(1, 1, 0));
        Check.refuses(land, Check.NO_SUCH, () -> land.go(-1, 1, 0));
        Check.refuses(land, Check.NO_SUCH, () -> land.go(0, 2, 6));
        Check.refuses(land, Check.NO_SUCH, () -> land.go(0, -1, 0));
        Check.refuses(land, Check.BAD_NUMBER, () -> land.go(0, 1, -1));
        Check.refuses(land, Check.BAD_NUMBER, () -> land.go(0, 1, 6));
        Check.refuses(land, Check.BAD_NUMBER, () -> land.go(0, 0, 6));
        land.go(0, 1, 5);
        Check.refuses(land, Check.BAD_NUMBER, () -> land.go(0, 0, 6));
        Check.refuses(land, Check.NO_SUCH, () -> land.go(0, 2, 0));
    }

    static void promise16NothingIsChanged() {
        RumourCustoms land = Lands.withRoad(9, 1000);
        Lands.inBag(land, 0, 10, 2);
        Lands.hidden(land, 0, 1, 0);
        long before = land.digest();
        Check.same(land.wouldPay(0, 1, 0), 130);
        Check.same(land.wouldPay(0, 1, 1), 80);
        Check.same(land.digest(), before);
    }

    static void promise16WhateverIsInThePurse() {
        RumourCustoms land = Lands.withRoad(9, 60);
        Lands.inBag(land, 0, 10, 2);
        Lands.hidden(land, 0, 1, 0);
        Check.same(land.wouldPay(0, 1, 0), 100);
        Check.same(land.wouldPay(0, 1, 1), 60);
        Check.same(land.wouldPay(0, 1, 2), 55);
        Check.same(land.wouldPay(0, 1, 5), 55);
    }

    static void promise16NoFineWithoutASearch() {
        RumourCustoms land = Lands.withRoad(8, 1000);
        Lands.inBag(land, 0, 10, 2);
        Lands.hidden(land, 0, 1, 0);
        Check.same(land.wouldPay(0, 1, 0), 100);
        land.go(0, 1, 0);
        land.pass(3);
        Check.same(land.wouldPay(0, 0, 0), 130);
    }

    static void promise16WithoutARoad() {
        RumourCustoms land = Lands.withTowns(3);
        land.build(0, 1, 2, 1, 1, 1);
        land.addCarrier(0, 100);
        Check.same(land.wouldPay(0, 2, 0), -1);
        Check.same(land.wouldPay(0, 0, 0), -1);
        Check.same(land.wouldPay(0, 1, 0), 0);
        land.go(0, 1, 0);
        Check.refuses(land, Check.NOT_NOW, () -> land.wouldPay(0, 0, 0));
        Check.refuses(land, Check.NOT_NOW, () -> land.wouldPay(0, 2, 0));
        Check.refuses(land, Check.BAD_NUMBER, () -> land.wouldPay(0, 2, -1));
        land.pass(2);
        Check.same(land.wouldPay(0, 0, 0), 0);
    }

    static void promise16WrongNumbers() {
        RumourCustoms land = Lands.withRoad(0, 0);
        Check.refuses(land, Check.NO_SUCH, () -> land.wouldPay(1, 1, 0));
        Check.refuses(land, Check.NO_SUCH, () -> land.wouldPay(-1, 1, 0));
        Check.refuses(land, Check.NO_SUCH, () -> land.wouldPay(0, 2, 6));
        Check.refuses(land, Check.NO_SUCH, () -> land.wouldPay(0, -1, 0));
        Check.refuses(land, Check.BAD_NUMBER, () -> land.wouldPay(0, 1, -1));
        Check.refuses(land, Check.BAD_NUMBER, () -> land.wouldPay(0, 0, 6));
    }
}
