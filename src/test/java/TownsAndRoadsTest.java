/** Promises 2 to 4. */
final class TownsAndRoadsTest {
    static void promise2TownsAreNumberedFrom0() {
        RumourCustoms land = new RumourCustoms();
        for (int i = 0; i < 10; i++) {
            Check.same(land.addTown(), i);
            Check.same(land.count(1), i + 1);
        }
        Check.refuses(land, Check.NOT_NOW, land::addTown);
        Check.same(land.count(1), 10);
    }

    static void promise3BuildTellsHowManyRoadsThereAre() {
        RumourCustoms land = Lands.withTowns(10);
        int roads = 0;
        for (int a = 0; a < 10; a++) {
            for (int b = 0; b < a; b++) {
                roads++;
                Check.same(land.build(a, b, 1 + b, a, b, a), roads);
            }
        }
        Check.same(land.count(2), 45);
        for (int a = 0; a < 10; a++) {
            for (int b = 0; b < a; b++) {
                int from = b;
                int to = a;
                Check.row(what -> land.road(from, to, what), 1, 1 + b, a, b, a, 0, 0);
            }
        }
    }

    static void promise3TheLimitsThemselvesAreAllowed() {
        RumourCustoms land = Lands.withTowns(3);
        Check.same(land.build(0, 1, 1, 0, 0, 0), 1);
        Check.same(land.build(1, 2, 9, 20, 30, 9), 2);
        Check.row(what -> land.road(0, 1, what), 1, 1, 0, 0, 0, 0, 0);
        Check.row(what -> land.road(2, 1, what), 1, 9, 20, 30, 9, 0, 0);
    }

    static void promise3NoSuchTown() {
        RumourCustoms land = Lands.withTowns(2);
        Check.refuses(land, Check.NO_SUCH, () -> land.build(2, 0, 1, 1, 1, 1));
        Check.refuses(land, Check.NO_SUCH, () -> land.build(0, 2, 1, 1, 1, 1));
        Check.refuses(land, Check.NO_SUCH, () -> land.build(-1, 0, 1, 1, 1, 1));
        Check.refuses(land, Check.NO_SUCH, () -> land.build(0, -1, 1, 1, 1, 1));
        Check.refuses(land, Check.NO_SUCH, () -> land.build(2, 2, 0, -1, -1, -1));
        Check.refuses(land, Check.NO_SUCH, () -> land.build(0, Integer.MAX_VALUE, 1, 1, 1, 1));
        Check.refuses(land, Check.NO_SUCH, () -> land.build(Integer.MIN_VALUE, 0, 1, 1, 1, 1));
    }

    static void promise3WrongNumbers() {
        RumourCustoms land = Lands.withTowns(2);
        Check.refuses(land, Check.BAD_NUMBER, () -> land.build(1, 1, 1, 1, 1, 1));
        Check.refuses(land, Check.BAD_NUMBER, () -> land.build(0, 1, 0, 1, 1, 1));
        Check.refuses(land, Check.BAD_NUMBER, () -> land.build(0, 1, 10, 1, 1, 1));
        Check.refuses(land, Check.BAD_NUMBER, () -> land.build(0, 1, 1, -1, 1, 1));
        Check.refuses(land, Check.BAD_NUMBER, () -> land.build(0, 1, 1, 21, 1, 1));
        Check.refuses(land, Check.BAD_NUMBER, () -> land.build(0, 1, 1, 1, -1, 1));
        Check.refuses(land, Check.BAD_NUMBER, () -> land.build(0, 1, 1, 1, 31, 1));
        Check.refuses(land, Check.BAD_NUMBER, () -> land.build(0, 1, 1, 1, 1, -1));
        Check.refuses(land, Check.BAD_NUMBER, () -> land.build(0, 1, 1, 1, 1, 10));
        Check.same(land.count(2), 0);
    }

    static void promise3OneRoadBetweenTwoTowns() {
        RumourCustoms land = Lands.withTowns(3);
        land.build(1, 0, 4, 5, 6, 7);
        Check.refuses(land, Check.NOT_NOW, () -> land.build(1, 0, 1, 1, 1, 1));
        Check.refuses(land, Check.NOT_NOW, () -> land.build(0, 1, 1, 1, 1, 1));
        Check.refuses(land, Check.BAD_NUMBER, () -> land.build(0, 1, 1, 1, 1, 10));
        Check.row(what -> land.road(0, 1, what), 1, 4, 5, 6, 7, 0, 0);
        Check.same(land.build(0, 2, 1, 1, 1, 1), 2);
    }

    static void promise4WithoutARoadAllIs0() {
        RumourCustoms land = Lands.withTowns(3);
        land.build(0, 1, 4, 5, 6, 7);
        Check.row(what -> land.road(0, 2, what), 0, 0, 0, 0, 0, 0, 0);
        Check.row(what -> land.road(2, 1, what), 0, 0, 0, 0, 0, 0, 0);
        Check.row(what -> land.road(1, 1, what), 0, 0, 0, 0, 0, 0, 0);
    }

    static void promise4AttentionAndWhatWasPaid() {
        RumourCustoms land = Lands.withRoad(4, 1000);
        Lands.inBag(land, 0, 12, 0);
        Lands.hidden(land, 0, 3, 0);
        land.go(0, 1, 0);
        Check.row(what -> land.road(0, 1, what), 1, 3, 10, 7, 4, 5, 120);
        land.pass(3);
        Check.same(land.go(0, 0, 0), 120 + 3 * 30);
        Check.row(what -> land.road(1, 0, what), 1, 3, 10, 7, 4, 0, 120 + 120 + 90);
    }

    static void promise4WrongQuestions() {
        RumourCustoms land = Lands.withRoad(0, 0);
        Check.refuses(land, Check.NO_SUCH, () -> land.road(0, 1, -1));
        Check.refuses(land, Check.NO_SUCH, () -> land.road(0, 1, 7));
        Check.refuses(land, Check.NO_SUCH, () -> land.road(2, 1, 0));
        Check.refuses(land, Check.NO_SUCH, () -> land.road(0, 2, 0));
        Check.refuses(land, Check.NO_SUCH, () -> land.road(-1, 1, 0));
        Check.refuses(land, Check.NO_SUCH, () -> land.road(0, -1, 0));
        Check.refuses(land, Check.NO_SUCH, () -> land.road(0, 0, 7));
    }
}
