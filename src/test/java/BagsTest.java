/** Promises 9 to 13 and 15. */
final class BagsTest {
    static void promise9CarriersAreNumberedFrom0() {
        RumourCustoms land = Lands.withTowns(3);
        for (int i = 0; i < 8; i++) {
            Check.same(land.addCarrier(i % 3, i * 100), i);
        }
        Check.same(land.count(5), 8);
        Check.row(what -> land.carrier(7, what), 1, 0, 700, 0, 0, 0);
        Check.refuses(land, Check.NOT_NOW, () -> land.addCarrier(0, 0));
        Check.refuses(land, Check.BAD_NUMBER, () -> land.addCarrier(0, -1));
        Check.refuses(land, Check.NO_SUCH, () -> land.addCarrier(3, -1));
    }

    static void promise9ThePurse() {
        RumourCustoms land = Lands.withTowns(1);
        Check.same(land.addCarrier(0, 0), 0);
        Check.same(land.addCarrier(0, 1000000), 1);
        Check.same(land.carrier(1, 2), 1000000);
        Check.refuses(land, Check.BAD_NUMBER, () -> land.addCarrier(0, -1));
        Check.refuses(land, Check.BAD_NUMBER, () -> land.addCarrier(0, 1000001));
        Check.refuses(land, Check.NO_SUCH, () -> land.addCarrier(1, 0));
        Check.refuses(land, Check.NO_SUCH, () -> land.addCarrier(-1, 0));
    }

    static void promise10TakeTellsHowManyAreInTheBag() {
        RumourCustoms land = Lands.withTowns(1);
        land.addCarrier(0, 0);
        for (int i = 0; i < 7; i++) {
            land.makeUp(0, 1, 0);
        }
        for (int i = 0; i < 6; i++) {
            Check.same(land.take(0, 6 - i), i + 1);
        }
        Check.refuses(land, Check.NOT_NOW, () -> land.take(0, 0));
        land.leave(0, 3);
        Check.same(land.take(0, 0), 6);
        Check.same(land.addCarrier(0, 0), 1);
        Check.same(land.take(1, 3), 1);
    }

    static void promise10WhatIsTakenIsNotHidden() {
        RumourCustoms land = Lands.withTowns(1);
        land.addCarrier(0, 0);
        Lands.hidden(land, 0, 5, 1);
        land.leave(0, 0);
        Check.same(land.rumour(0, 6), 0);
        Check.same(land.take(0, 0), 1);
        Check.row(what -> land.rumour(0, what), 5, 0, 1, 0, -1, 0, 0);
    }

    static void promise10OnlyFromTheSameTown() {
        RumourCustoms land = Lands.withRoad(9, 1000);
        land.addCarrier(0, 0);
        land.makeUp(1, 1, 0);
        land.makeUp(0, 1, 0);
        Lands.inBag(land, 1, 1, 0);
        Lands.hidden(land, 0, 1, 0);
        Check.refuses(land, Check.NOT_NOW, () -> land.take(0, 0));
        Check.refuses(land, Check.NOT_NOW, () -> land.take(0, 2));
        Check.refuses(land, Check.NOT_NOW, () -> land.take(0, 3));
        land.go(0, 1, 0);
        Check.same(land.count(4), 1);
        Check.refuses(land, Check.NOT_NOW, () -> land.take(0, 0));
        Check.refuses(land, Check.NOT_NOW, () -> land.take(0, 1));
        Check.refuses(land, Check.NOT_NOW, () -> land.take(1, 3));
        land.pass(3);
        Check.refuses(land, Check.NOT_NOW, () -> land.take(0, 1));
        Check.refuses(land, Check.NOT_NOW, () -> land.take(0, 3));
        Check.same(land.take(0, 0), 1);
    }

    static void promise10WrongNumbers() {
        RumourCustoms land = Lands.withRoad(0, 0);
        land.makeUp(0, 1, 0);
        Check.refuses(land, Check.NO_SUCH, () -> land.take(1, 0));
        Check.refuses(land, Check.NO_SUCH, () -> land.take(-1, 0));
        Check.refuses(land, Check.NO_SUCH, () -> land.take(0, 1));
        Check.refuses(land, Check.NO_SUCH, () -> land.take(0, -1));
        land.go(0, 1, 0);
        Check.refuses(land, Check.NO_SUCH, () -> land.take(0, 1));
    }

    static void promise11LeaveTellsHowManyAreInTheBag() {
        RumourCustoms land = Lands.withRoad(0, 1000);
        Lands.inBag(land, 0, 5, 1);
        Lands.hidden(land, 0, 6, 2);
        land.go(0, 1, 0);
        Check.refuses(land, Check.NOT_NOW, () -> land.leave(0, 0));
        land.pass(3);
        Check.same(land.leave(0, 1), 1);
        Check.row(what -> land.rumour(1, what), 6, 0, 2, 1, 1, -1, 0);
        Check.row(what -> land.carrier(0, what), 1, 0, 950, 1, 0, 50);
        Check.same(land.leave(0, 0), 0);
        Check.same(land.rumour(0, 4), 1);
        Check.refuses(land, Check.NOT_NOW, () -> land.leave(0, 0));
    }

    static void promise11OnlyWhatTheCarrierHas() {
        RumourCustoms land = Lands.withRoad(9, 0);
        land.addCarrier(0, 0);
        Lands.inBag(land, 0, 5, 1);
        Lands.hidden(land, 1, 5, 1);
        Check.refuses(land, Check.NOT_NOW, () -> land.leave(1, 0));
        Check.refuses(land, Check.NOT_NOW, () -> land.leave(0, 1));
        land.go(1, 1, 0);
        land.pass(3);
        Check.refuses(land, Check.NOT_NOW, () -> land.leave(1, 1));
        Check.refuses(land, Check.NO_SUCH, () -> land.leave(2, 0));
        Check.refuses(land, Check.NO_SUCH, () -> land.leave(-1, 0));
        Check.refuses(land, Check.NO_SUCH, () -> land.leave(0, 2));
        Check.refuses(land, Check.NO_SUCH, () -> land.leave(0, -1));
        Check.same(land.leave(0, 0), 0);
    }

    static void promise12HideTellsHowManyAreHidden() {
        RumourCustoms land = Lands.withRoad(0, 1000);
        Lands.inBag(land, 0, 5, 1);
        Lands.inBag(land, 0, 5, 1);
        Check.same(land.hide(0, 0, true), 1);
        Check.same(land.hide(0, 0, true), 1);
        Check.same(land.hide(0, 1, true), 2);
        Check.same(land.hide(0, 0, false), 1);
        Check.same(land.hide(0, 0, false), 1);
        Check.row(what -> land.carrier(0, what), 0, 0, 1000, 2, 1, 0);
        Check.same(land.rumour(0, 6), 0);
        Check.same(land.rumour(1, 6), 1);
    }

    static void promise12AlsoOnTheWay() {
        RumourCustoms land = Lands.withRoad(0, 1000);
        Lands.inBag(land, 0, 5, 1);
        land.go(0, 1, 0);
        Check.same(land.hide(0, 0, true), 1);
        Check.same(land.rumour(0, 6), 1);
        land.pass(1);
        Check.same(land.hide(0, 0, false), 0);
        Check.same(land.rumour(0, 6), 0);
    }

    static void promise12OnlyWhatTheCarrierHas() {
        RumourCustoms land = Lands.withRoad(9, 0);
        land.addCarrier(0, 0);
        land.makeUp(0, 1, 1);
        Lands.inBag(land, 1, 1, 1);
        Lands.hidden(land, 0, 1, 1);
        land.go(0, 1, 0);
        for (int rumour = 0; rumour < 3; rumour++) {
            int each = rumour;
            Check.refuses(land, Check.NOT_NOW, () -> land.hide(0, each, true));
            Check.refuses(land, Check.NOT_NOW, () -> land.hide(0, each, false));
        }
        Check.refuses(land, Check.NO_SUCH, () -> land.hide(2, 1, true));
        Check.refuses(land, Check.NO_SUCH, () -> land.hide(-1, 1, true));
        Check.refuses(land, Check.NO_SUCH, () -> land.hide(0, 3, true));
        Check.refuses(land, Check.NO_SUCH, () -> land.hide(0, -1, false));
    }

    static void promise13WhatIsToldIsOneDeeper() {
        RumourCustoms land = Lands.withRoad(0, 1000);
        Lands.inBag(land, 0, 12, 4);
        land.go(0, 1, 1);
        land.pass(3);
        land.hide(0, 0, true);
        Check.same(land.tell(0, 0), 1);
        Check.row(what -> land.rumour(1, what), 12, 1, 3, 0, 1, -1, 0);
        Check.row(what -> land.rumour(0, what), 12, 0, 3, 0, -1, 0, 1);
        Check.same(land.count(3), 2);
    }

    static void promise13NoneIsMadeIfTheTownHasOneNotDeeper() {
        RumourCustoms land = Lands.withTowns(1);
        land.addCarrier(0, 0);
        Lands.inBag(land, 0, 12, 0);
        Check.same(land.tell(0, 0), 1);
        Check.same(land.tell(0, 0), -1);
        land.take(0, 1);
        Check.same(land.tell(0, 1), 2);
        // The town has the family in the depth 2, and what is told now would have the depth 1.
        Check.same(land.tell(0, 0), 3);
        Check.same(land.tell(0, 1), -1);
        land.leave(0, 0);
        Check.same(land.tell(0, 1), -1);
        Check.same(land.count(3), 4);
    }

    static void promise13OtherFamiliesDoNotMatter() {
        RumourCustoms land = Lands.withTowns(1);
        land.addCarrier(0, 0);
        land.makeUp(0, 12, 0);
        Lands.inBag(land, 0, 12, 0);
        Check.same(land.tell(0, 1), 2);
        Check.same(land.rumour(2, 3), 1);
    }

    static void promise13ThereAreAtMost60() {
        RumourCustoms land = Lands.withTowns(1);
        land.addCarrier(0, 0);
        Lands.inBag(land, 0, 12, 0);
        Lands.inBag(land, 0, 13, 0);
        for (int i = 2; i < 59; i++) {
            land.makeUp(0, 1, 0);
        }
        Check.same(land.tell(0, 0), 59);
        Check.same(land.tell(0, 0), -1);
        Check.refuses(land, Check.NOT_NOW, () -> land.tell(0, 1));
        Check.same(land.count(3), 60);
    }

    static void promise13ARumourGoesFarDown() {
        RumourCustoms land = Lands.withTowns(1);
        Lands.tellOn(land, 47);
        Check.row(what -> land.rumour(47, what), 8, 47, 3, 0, -1, 7, 0);
        Check.same(land.tell(7, 47), 48);
        Check.same(land.rumour(48, 1), 48);
        Check.same(land.spread(5, 1), 48);
    }

    static void promise13OnlyInATownAndWhatTheCarrierHas() {
        RumourCustoms land = Lands.withRoad(9, 1000);
        land.addCarrier(0, 0);
        Lands.inBag(land, 0, 1, 1);
        Lands.hidden(land, 0, 1, 1);
        land.makeUp(0, 1, 1);
        Check.refuses(land, Check.NOT_NOW, () -> land.tell(1, 0));
        Check.refuses(land, Check.NOT_NOW, () -> land.tell(0, 2));
        land.go(0, 1, 0);
        Check.refuses(land, Check.NOT_NOW, () -> land.tell(0, 0));
        land.pass(3);
        Check.refuses(land, Check.NOT_NOW, () -> land.tell(0, 1));
        Check.refuses(land, Check.NO_SUCH, () -> land.tell(2, 0));
        Check.refuses(land, Check.NO_SUCH, () -> land.tell(-1, 0));
        Check.refuses(land, Check.NO_SUCH, () -> land.tell(0, 3));
        Check.refuses(land, Check.NO_SUCH, () -> land.tell(0, -1));
        Check.same(land.tell(0, 0), 3);
    }

    static void promise15WhatACarrierTells() {
        RumourCustoms land = Lands.withRoad(0, 1000);
        land.addCarrier(1, 5);
        Check.row(what -> land.carrier(0, what), 0, 0, 1000, 0, 0, 0);
        Check.row(what -> land.carrier(1, what), 1, 0, 5, 0, 0, 0);
        Lands.inBag(land, 0, 5, 1);
        Lands.hidden(land, 0, 5, 1);
        Lands.hidden(land, 0, 5, 1);
        land.go(0, 1, 0);
        Check.row(what -> land.carrier(0, what), 1, 3, 950, 3, 2, 50);
        land.pass(1);
        Check.row(what -> land.carrier(0, what), 1, 2, 950, 3, 2, 50);
        land.pass(2);
        Check.row(what -> land.carrier(0, what), 1, 0, 950, 3, 2, 50);
        land.go(0, 0, 1);
        Check.row(what -> land.carrier(0, what), 0, 3, 925, 3, 2, 75);
        Check.row(what -> land.carrier(1, what), 1, 0, 5, 0, 0, 0);
    }

    static void promise15AFineCountsAsPaid() {
        RumourCustoms land = Lands.withRoad(9, 170);
        Lands.inBag(land, 0, 2, 0);
        Lands.hidden(land, 0, 6, 0);
        Check.same(land.go(0, 1, 0), 170);
        Check.row(what -> land.carrier(0, what), 1, 3, 0, 1, 0, 170);
    }

    static void promise15WrongQuestions() {
        RumourCustoms land = Lands.withRoad(0, 0);
        Check.refuses(land, Check.NO_SUCH, () -> land.carrier(1, 0));
        Check.refuses(land, Check.NO_SUCH, () -> land.carrier(-1, 0));
        Check.refuses(land, Check.NO_SUCH, () -> land.carrier(0, -1));
        Check.refuses(land, Check.NO_SUCH, () -> land.carrier(0, 6));
    }
}
