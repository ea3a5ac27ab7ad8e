/** Promises 5 to 8. */
final class RumoursTest {
    static void promise5ARumourIsMadeUp() {
        RumourCustoms land = Lands.withTowns(2);
        Check.same(land.makeUp(1, 30, 5), 0);
        Check.same(land.makeUp(0, 1, 0), 1);
        Check.row(what -> land.rumour(0, what), 30, 0, 5, 0, 1, -1, 0);
        Check.row(what -> land.rumour(1, what), 1, 0, 0, 1, 0, -1, 0);
        Check.same(land.count(3), 2);
    }

    static void promise5ThereAreAtMost60() {
        RumourCustoms land = Lands.withTowns(1);
        for (int i = 0; i < 60; i++) {
            Check.same(land.makeUp(0, 1, 0), i);
        }
        Check.refuses(land, Check.NOT_NOW, () -> land.makeUp(0, 1, 0));
        Check.refuses(land, Check.BAD_NUMBER, () -> land.makeUp(0, 0, 0));
        Check.refuses(land, Check.NO_SUCH, () -> land.makeUp(1, 1, 0));
        Check.same(land.count(3), 60);
        Check.same(land.town(0, 1), 60);
        Check.same(land.heard(0, 59), 59);
    }

    static void promise5GoneOnesCountForThe60() {
        RumourCustoms land = Lands.withRoad(9, 1000000);
        Lands.hidden(land, 0, 30, 5);
        land.go(0, 1, 0);
        Check.same(land.count(4), 1);
        for (int i = 1; i < 60; i++) {
            Check.same(land.makeUp(0, 1, 0), i);
        }
        Check.refuses(land, Check.NOT_NOW, () -> land.makeUp(0, 1, 0));
    }

    static void promise5WrongNumbers() {
        RumourCustoms land = Lands.withTowns(1);
        Check.refuses(land, Check.NO_SUCH, () -> land.makeUp(1, 1, 1));
        Check.refuses(land, Check.NO_SUCH, () -> land.makeUp(-1, 1, 1));
        Check.refuses(land, Check.NO_SUCH, () -> land.makeUp(1, 0, 6));
        Check.refuses(land, Check.BAD_NUMBER, () -> land.makeUp(0, 0, 1));
        Check.refuses(land, Check.BAD_NUMBER, () -> land.makeUp(0, 31, 1));
        Check.refuses(land, Check.BAD_NUMBER, () -> land.makeUp(0, 1, -1));
        Check.refuses(land, Check.BAD_NUMBER, () -> land.makeUp(0, 1, 6));
        Check.same(land.count(3), 0);
    }

    static void promise6InATownInABagHiddenAndGone() {
        RumourCustoms land = Lands.withRoad(8, 1000);
        land.addCarrier(0, 0);
        int rumour = land.makeUp(0, 12, 4);
        Check.row(what -> land.rumour(rumour, what), 12, 0, 4, 0, 0, -1, 0);
        land.take(1, rumour);
        Check.row(what -> land.rumour(rumour, what), 12, 0, 4, 0, -1, 1, 0);
        land.leave(1, rumour);
        land.take(0, rumour);
        land.hide(0, rumour, true);
        Check.row(what -> land.rumour(rumour, what), 12, 0, 4, 0, -1, 0, 1);
        land.go(0, 1, 0);
        Check.row(what -> land.rumour(rumour, what), 12, 0, 4, 0, -1, 0, 1);
        land.pass(3);
        land.go(0, 0, 0);
        Check.row(what -> land.rumour(rumour, what), 12, 0, 4, 0, -1, -1, 0);
    }

    static void promise6WhatWasToldKeepsItsFamily() {
        RumourCustoms land = Lands.withTowns(1);
        land.addCarrier(0, 0);
        land.makeUp(0, 1, 0);
        Lands.inBag(land, 0, 9, 2);
        Check.same(land.tell(0, 1), 2);
        land.take(0, 2);
        Check.same(land.tell(0, 2), 3);
        Check.row(what -> land.rumour(2, what), 9, 1, 2, 1, -1, 0, 0);
        Check.row(what -> land.rumour(3, what), 9, 2, 2, 1, 0, -1, 0);
    }

    static void promise6WrongQuestions() {
        RumourCustoms land = Lands.withTowns(1);
        land.makeUp(0, 1, 1);
        Check.refuses(land, Check.NO_SUCH, () -> land.rumour(1, 0));
        Check.refuses(land, Check.NO_SUCH, () -> land.rumour(-1, 0));
        Check.refuses(land, Check.NO_SUCH, () -> land.rumour(60, 0));
        Check.refuses(land, Check.NO_SUCH, () -> land.rumour(0, -1));
        Check.refuses(land, Check.NO_SUCH, () -> land.rumour(0, 7));
    }

    static void promise7WhatIsInATown() {
        RumourCustoms land = Lands.withRoad(0, 1000);
        Check.row(what -> land.town(0, what), 0, 0, -1, 1);
        Check.row(what -> land.town(1, what), 0, 0, -1, 0);
        land.makeUp(0, 5, 0);
        Lands.inBag(land, 0, 6, 0);
        Check.row(what -> land.town(0, what), 1, 1, 0, 1);
        land.tell(0, 1);
        Check.row(what -> land.town(0, what), 2, 2, 2, 1);
        land.leave(0, 1);
        Check.row(what -> land.town(0, what), 3, 2, 2, 1);
        land.take(0, 1);
        land.go(0, 1, 0);
        Check.row(what -> land.town(0, what), 2, 2, 2, 0);
        Check.row(what -> land.town(1, what), 0, 0, -1, 0);
        land.pass(2);
        Check.same(land.town(1, 3), 0);
        land.pass(1);
        Check.row(what -> land.town(1, what), 0, 0, -1, 1);
    }

    static void promise7OfSeveralAsDeepThatWithTheSmallestNumber() {
        RumourCustoms land = Lands.withTowns(2);
        land.addCarrier(0, 0);
        Lands.inBag(land, 0, 6, 0);
        Lands.inBag(land, 0, 7, 0);
        land.makeUp(0, 1, 0);
        Check.same(land.town(0, 2), 2);
        land.makeUp(0, 1, 0);
        Check.same(land.town(0, 2), 2);
        land.tell(0, 1);
        Check.same(land.town(0, 2), 4);
        land.tell(0, 0);
        Check.same(land.town(0, 2), 4);
    }

    static void promise7WrongQuestions() {
        RumourCustoms land = Lands.withTowns(2);
        Check.refuses(land, Check.NO_SUCH, () -> land.town(2, 0));
        Check.refuses(land, Check.NO_SUCH, () -> land.town(-1, 0));
        Check.refuses(land, Check.NO_SUCH, () -> land.town(0, -1));
        Check.refuses(land, Check.NO_SUCH, () -> land.town(0, 4));
    }

    static void promise8TheLeastDeepOfTheFamilyIsHeard() {
        RumourCustoms land = Lands.withTowns(2);
        land.makeUp(0, 3, 0);
        land.addCarrier(0, 0);
        Lands.inBag(land, 0, 3, 0);
        land.tell(0, 1);
        Check.same(land.heard(0, 1), 2);
        Check.same(land.heard(0, 2), 2);
        land.leave(0, 1);
        Check.same(land.heard(0, 2), 1);
        Check.same(land.heard(0, 0), 0);
        Check.same(land.heard(1, 0), -1);
        Check.same(land.heard(1, 2), -1);
    }

    static void promise8OfSeveralThatWithTheSmallestNumber() {
        RumourCustoms land = Lands.withTowns(1);
        land.addCarrier(0, 0);
        Lands.inBag(land, 0, 6, 0);
        land.tell(0, 0);
        land.take(0, 1);
        land.tell(0, 0);
        land.leave(0, 1);
        Check.same(land.rumour(1, 1), 1);
        Check.same(land.rumour(2, 1), 1);
        Check.same(land.heard(0, 0), 1);
        land.take(0, 1);
        Check.same(land.heard(0, 0), 2);
        Check.same(land.heard(0, 1), 2);
    }

    static void promise8WhatIsInABagOrGoneIsNotKnown() {
        RumourCustoms land = Lands.withRoad(9, 1000);
        Lands.hidden(land, 0, 6, 0);
        Check.same(land.heard(0, 0), -1);
        land.tell(0, 0);
        land.go(0, 1, 0);
        land.pass(3);
        Check.same(land.rumour(0, 5), -1);
        Check.same(land.heard(0, 0), 1);
        Check.same(land.heard(1, 0), -1);
    }

    static void promise8WrongQuestions() {
        RumourCustoms land = Lands.withTowns(1);
        land.makeUp(0, 1, 1);
        Check.refuses(land, Check.NO_SUCH, () -> land.heard(1, 0));
        Check.refuses(land, Check.NO_SUCH, () -> land.heard(-1, 0));
        Check.refuses(land, Check.NO_SUCH, () -> land.heard(0, 1));
        Check.refuses(land, Check.NO_SUCH, () -> land.heard(0, -1));
    }
}
