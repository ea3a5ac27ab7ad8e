/** Promises 17 and 18. */
final class HoursTest {
    static void promise17CarriersCome() {
        RumourCustoms land = Lands.withTowns(4);
        land.build(0, 1, 1, 0, 0, 0);
        land.build(0, 2, 5, 0, 0, 0);
        land.build(0, 3, 9, 0, 0, 0);
        for (int i = 0; i < 5; i++) {
            land.addCarrier(0, 0);
        }
        land.go(0, 1, 0);
        land.go(1, 2, 0);
        land.go(2, 2, 0);
        land.go(3, 3, 0);
        Check.same(land.count(6), 4);
        Check.same(land.pass(1), 1);
        Check.same(land.count(6), 3);
        Check.same(land.pass(3), 0);
        Check.same(land.carrier(1, 1), 1);
        Check.same(land.carrier(3, 1), 5);
        Check.same(land.pass(2), 2);
        Check.same(land.carrier(1, 1), 0);
        Check.same(land.carrier(3, 1), 3);
        Check.same(land.pass(100), 1);
        Check.same(land.count(6), 0);
        Check.same(land.count(0), 106);
        Check.same(land.pass(1), 0);
        Check.same(land.town(0, 3), 1);
        Check.same(land.town(2, 3), 2);
        Check.same(land.town(3, 3), 1);
    }

    static void promise17FromOneHourTo100() {
        RumourCustoms land = new RumourCustoms();
        Check.same(land.pass(1), 0);
        Check.same(land.pass(100), 0);
        Check.same(land.count(0), 101);
        Check.refuses(land, Check.BAD_NUMBER, () -> land.pass(0));
        Check.refuses(land, Check.BAD_NUMBER, () -> land.pass(101));
        Check.refuses(land, Check.BAD_NUMBER, () -> land.pass(-1));
        Check.refuses(land, Check.BAD_NUMBER, () -> land.pass(Integer.MIN_VALUE));
        Check.same(land.count(0), 101);
    }

    static void promise18WhatTheLandTells() {
        RumourCustoms land = Lands.withRoad(5, 1000);
        land.addTown();
        land.build(1, 2, 1, 2, 0, 0);
        land.addCarrier(0, 1000);
        Lands.inBag(land, 0, 9, 3);
        Lands.hidden(land, 0, 2, 0);
        Lands.inBag(land, 1, 9, 1);
        land.tell(1, 2);
        Check.row(land::count, 0, 3, 2, 4, 0, 2, 0, 0, 0, 0, 0);
        land.go(0, 1, 2);
        Check.row(land::count, 0, 3, 2, 4, 0, 2, 1, 2, 22, 0, 0);
        land.go(1, 1, 2);
        Check.row(land::count, 0, 3, 2, 4, 0, 2, 2, 3, 67, 0, 1);
        land.pass(4);
        Check.row(land::count, 4, 3, 2, 4, 0, 2, 0, 3, 67, 0, 1);
        land.go(0, 2, 0);
        land.pass(1);
        land.go(0, 1, 0);
        land.pass(1);
        Check.row(land::count, 6, 3, 2, 4, 0, 2, 0, 3, 103, 0, 1);
        land.go(0, 0, 1);
        Check.row(land::count, 6, 3, 2, 4, 0, 2, 1, 4, 148, 0, 1);
        land.pass(7);
        Check.same(land.go(0, 1, 0), 90 + 60);
        Check.row(land::count, 13, 3, 2, 4, 1, 2, 1, 4, 238, 60, 2);
    }

    static void promise18WrongQuestions() {
        RumourCustoms land = new RumourCustoms();
        Check.refuses(land, Check.NO_SUCH, () -> land.count(-1));
        Check.refuses(land, Check.NO_SUCH, () -> land.count(11));
        Check.refuses(land, Check.NO_SUCH, () -> land.count(Integer.MAX_VALUE));
    }
}
