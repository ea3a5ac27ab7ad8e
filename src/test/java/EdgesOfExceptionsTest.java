/**
 * "A method that throws an exception changes nothing. If several exceptions apply, the one that is named
 * first is thrown." Check.refuses looks at the first sentence in every test; here each method is called so
 * that several exceptions apply.
 */
final class EdgesOfExceptionsTest {
    static void promise3TheTownBeforeTheNumbersBeforeTheRoad() {
        RumourCustoms land = Lands.withRoad(0, 0);
        Check.refuses(land, Check.NO_SUCH, () -> land.build(2, 2, 0, -1, -1, -1));
        Check.refuses(land, Check.NO_SUCH, () -> land.build(0, 2, 10, 1, 1, 1));
        Check.refuses(land, Check.NO_SUCH, () -> land.build(-1, 0, 1, 21, 1, 1));
        Check.refuses(land, Check.BAD_NUMBER, () -> land.build(0, 1, 0, 1, 1, 1));
        Check.refuses(land, Check.BAD_NUMBER, () -> land.build(1, 0, 1, 21, 1, 1));
        Check.refuses(land, Check.BAD_NUMBER, () -> land.build(0, 1, 1, 1, 31, 1));
        Check.refuses(land, Check.BAD_NUMBER, () -> land.build(1, 0, 1, 1, 1, 10));
    }

    static void promise5TheTownBeforeTheNumbersBeforeThe60() {
        RumourCustoms land = Lands.withAllRumours();
        Check.refuses(land, Check.NO_SUCH, () -> land.makeUp(1, 0, 6));
        Check.refuses(land, Check.NO_SUCH, () -> land.makeUp(-1, 1, 1));
        Check.refuses(land, Check.BAD_NUMBER, () -> land.makeUp(0, 31, 1));
        Check.refuses(land, Check.BAD_NUMBER, () -> land.makeUp(0, 1, -1));
        Check.refuses(land, Check.NOT_NOW, () -> land.makeUp(0, 30, 5));
    }

    static void promise9TheTownBeforeThePurseBeforeThe8() {
        RumourCustoms land = Lands.withTowns(1);
        for (int i = 0; i < 8; i++) {
            land.addCarrier(0, 0);
        }
        Check.refuses(land, Check.NO_SUCH, () -> land.addCarrier(1, -1));
        Check.refuses(land, Check.NO_SUCH, () -> land.addCarrier(-1, 1000001));
        Check.refuses(land, Check.NO_SUCH, () -> land.addCarrier(1, 0));
        Check.refuses(land, Check.BAD_NUMBER, () -> land.addCarrier(0, -1));
        Check.refuses(land, Check.BAD_NUMBER, () -> land.addCarrier(0, 1000001));
        Check.refuses(land, Check.NOT_NOW, () -> land.addCarrier(0, 1000000));
    }

    static void promises10To13TheNumbersBeforeTheState() {
        RumourCustoms land = Lands.withRoad(0, 1000);
        land.makeUp(0, 1, 0);
        land.go(0, 1, 0);
        int[][] wrong = {{1, 0}, {-1, 0}, {0, 1}, {0, -1}, {1, 1}};
        for (int[] each : wrong) {
            Check.refuses(land, Check.NO_SUCH, () -> land.take(each[0], each[1]));
            Check.refuses(land, Check.NO_SUCH, () -> land.leave(each[0], each[1]));
            Check.refuses(land, Check.NO_SUCH, () -> land.hide(each[0], each[1], true));
            Check.refuses(land, Check.NO_SUCH, () -> land.tell(each[0], each[1]));
        }
        Check.refuses(land, Check.NOT_NOW, () -> land.take(0, 0));
        Check.refuses(land, Check.NOT_NOW, () -> land.leave(0, 0));
        Check.refuses(land, Check.NOT_NOW, () -> land.hide(0, 0, true));
        Check.refuses(land, Check.NOT_NOW, () -> land.tell(0, 0));
    }

    static void promise14TheNumbersBeforeBurnBeforeTheState() {
        RumourCustoms land = Lands.withRoad(0, 0);
        land.addTown();
        Lands.inBag(land, 0, 1, 0);
        Check.refuses(land, Check.NO_SUCH, () -> land.go(1, 1, 6));
        Check.refuses(land, Check.NO_SUCH, () -> land.go(0, 3, -1));
        Check.refuses(land, Check.BAD_NUMBER, () -> land.go(0, 1, 6));
        Check.refuses(land, Check.BAD_NUMBER, () -> land.go(0, 2, -1));
        Check.refuses(land, Check.NOT_NOW, () -> land.go(0, 1, 5));
        land.leave(0, 0);
        land.go(0, 1, 0);
        Check.refuses(land, Check.NO_SUCH, () -> land.go(-1, 0, 0));
        Check.refuses(land, Check.NO_SUCH, () -> land.go(0, -1, 0));
        Check.refuses(land, Check.BAD_NUMBER, () -> land.go(0, 0, 6));
        Check.refuses(land, Check.NOT_NOW, () -> land.go(0, 0, 5));
    }

    static void promise16TheNumbersBeforeBurnBeforeTheState() {
        RumourCustoms land = Lands.withRoad(0, 0);
        land.addTown();
        Check.refuses(land, Check.NO_SUCH, () -> land.wouldPay(1, 1, 6));
        Check.refuses(land, Check.NO_SUCH, () -> land.wouldPay(0, 3, -1));
        Check.refuses(land, Check.BAD_NUMBER, () -> land.wouldPay(0, 2, 6));
        land.go(0, 1, 0);
        Check.refuses(land, Check.NO_SUCH, () -> land.wouldPay(-1, 0, 0));
        Check.refuses(land, Check.NO_SUCH, () -> land.wouldPay(0, 3, 0));
        Check.refuses(land, Check.BAD_NUMBER, () -> land.wouldPay(0, 0, -1));
        Check.refuses(land, Check.NOT_NOW, () -> land.wouldPay(0, 0, 5));
    }

    /** Each refused call, between two looks at all that the land tells. */
    static void refusedCallsChangeNothing() {
        RumourCustoms land = Lands.withRoad(9, 49);
        land.addCarrier(1, 0);
        Lands.inBag(land, 0, 10, 1);
        Lands.hidden(land, 0, 1, 1);
        land.makeUp(1, 1, 1);
        land.go(1, 0, 0);
        String before = toldBy(land);
        Check.refuses(land, Check.NOT_NOW, () -> land.build(0, 1, 1, 1, 1, 1));
        Check.refuses(land, Check.BAD_NUMBER, () -> land.makeUp(0, 31, 1));
        Check.refuses(land, Check.BAD_NUMBER, () -> land.addCarrier(0, -1));
        Check.refuses(land, Check.NOT_NOW, () -> land.take(0, 2));
        Check.refuses(land, Check.NOT_NOW, () -> land.take(1, 2));
        Check.refuses(land, Check.NOT_NOW, () -> land.leave(1, 0));
        Check.refuses(land, Check.NOT_NOW, () -> land.hide(1, 0, true));
        Check.refuses(land, Check.NOT_NOW, () -> land.tell(1, 0));
        Check.refuses(land, Check.NOT_NOW, () -> land.go(0, 1, 1));
        Check.refuses(land, Check.NOT_NOW, () -> land.go(1, 1, 0));
        Check.refuses(land, Check.BAD_NUMBER, () -> land.pass(101));
        Check.holds(toldBy(land).equals(before), "the land tells " + toldBy(land) + ", before " + before);
    }

    /** Questions change nothing either, refused or answered. */
    static void questionsChangeNothing() {
        RumourCustoms land = Lands.withGoneRumour();
        Lands.inBag(land, 0, 3, 1);
        land.tell(0, 1);
        long before = land.digest();
        String told = toldBy(land);
        Check.same(land.wouldPay(0, 0, 1), 15);
        Check.same(land.heard(1, 1), 2);
        Check.same(land.cheapest(1, 1, 0, 0), 15);
        Check.same(land.hearsay(), 1.0);
        Check.same(land.digest(), before);
        Check.holds(toldBy(land).equals(told), "a question has changed the land");
    }

    /** What the land tells, without its checksum. */
    private static String toldBy(RumourCustoms land) {
        StringBuilder text = new StringBuilder();
        for (int what = 0; what <= 10; what++) {
            text.append(land.count(what)).append(' ');
        }
        for (int what = 0; what <= 6; what++) {
            text.append(land.road(0, 1, what)).append(' ');
        }
        for (int rumour = 0; rumour < land.count(3); rumour++) {
            for (int what = 0; what <= 6; what++) {
                text.append(land.rumour(rumour, what)).append(' ');
            }
        }
        for (int carrier = 0; carrier < land.count(5); carrier++) {
            for (int what = 0; what <= 5; what++) {
                text.append(land.carrier(carrier, what)).append(' ');
            }
        }
        return text.toString();
    }
}
