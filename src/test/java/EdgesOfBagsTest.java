/** The sentences of promises 9 to 13 that name an edge, and those of the terms on carriers and telling. */
final class EdgesOfBagsTest {
    /** "Throws IndexOutOfBoundsException if there is no such town". */
    static void promise9NoSuchTown() {
        RumourCustoms land = Lands.withTowns(9);
        Check.refusesOutside(land, Check.NO_SUCH, 0, 8, town -> land.addCarrier(town, 1));
        Check.same(land.addCarrier(8, 1), 0);
        land.addTown();
        Check.refusesOutside(land, Check.NO_SUCH, 0, 9, town -> land.addCarrier(town, 1));
        Check.same(land.addCarrier(9, 1), 1);
    }

    /** "Throws IllegalArgumentException if purse is not 0 to 1000000". */
    static void promise9PurseFrom0To1000000() {
        RumourCustoms land = Lands.withTowns(1);
        Check.refusesOutside(land, Check.BAD_NUMBER, 0, 1000000, purse -> land.addCarrier(0, purse));
        Check.same(land.addCarrier(0, 0), 0);
        Check.same(land.addCarrier(0, 1000000), 1);
        Check.same(land.carrier(0, 2), 0);
        Check.same(land.carrier(1, 2), 1000000);
    }

    /** "Throws IllegalStateException if there are 8": the eighth is added, the ninth never. */
    static void promise9FullWith8() {
        RumourCustoms land = Lands.withTowns(1);
        for (int i = 0; i < 7; i++) {
            land.addCarrier(0, 0);
        }
        Check.same(land.addCarrier(0, 5), 7);
        for (int i = 0; i < 3; i++) {
            Check.refuses(land, Check.NOT_NOW, () -> land.addCarrier(0, 5));
        }
        Check.same(land.count(5), 8);
        Check.same(land.town(0, 3), 8);
        Check.refuses(land, Check.NO_SUCH, () -> land.carrier(8, 0));
        Check.same(land.makeUp(0, 1, 0), 0);
        Check.same(land.take(7, 0), 1);
    }

    /** "Throws IndexOutOfBoundsException if there is no such carrier or rumour". */
    static void promise10NoSuchCarrierOrRumour() {
        RumourCustoms land = twoCarriersAndThreeRumours();
        Check.refusesOutside(land, Check.NO_SUCH, 0, 1, carrier -> land.take(carrier, 2));
        Check.refusesOutside(land, Check.NO_SUCH, 0, 2, rumour -> land.take(1, rumour));
        Check.same(land.take(1, 2), 2);
    }

    /** "Throws IllegalStateException if the carrier is on the way": until the last hour. */
    static void promise10OnTheWay() {
        RumourCustoms land = Lands.withRoad(0, 0);
        land.makeUp(0, 1, 0);
        land.makeUp(1, 1, 0);
        land.go(0, 1, 0);
        Check.refuses(land, Check.NOT_NOW, () -> land.take(0, 0));
        Check.refuses(land, Check.NOT_NOW, () -> land.take(0, 1));
        land.pass(2);
        Check.refuses(land, Check.NOT_NOW, () -> land.take(0, 0));
        Check.refuses(land, Check.NOT_NOW, () -> land.take(0, 1));
        land.pass(1);
        Check.same(land.take(0, 1), 1);
    }

    /** "... the rumour is not in the same town": in another one, in its own bag, in another's, or gone. */
    static void promise10NotInTheSameTown() {
        RumourCustoms land = Lands.withGoneRumour();
        land.addCarrier(1, 0);
        land.makeUp(0, 1, 0);
        Lands.inBag(land, 0, 1, 0);
        Lands.inBag(land, 1, 1, 0);
        Check.refuses(land, Check.NOT_NOW, () -> land.take(0, 0));
        Check.refuses(land, Check.NOT_NOW, () -> land.take(0, 1));
        Check.refuses(land, Check.NOT_NOW, () -> land.take(0, 2));
        Check.refuses(land, Check.NOT_NOW, () -> land.take(0, 3));
        Check.same(land.carrier(0, 3), 1);
    }

    /** "... or 6 are in the bag"; "a bag with at most 6 rumours": hidden ones are of the 6. */
    static void promise10FullWith6() {
        RumourCustoms land = Lands.withTowns(1);
        land.addCarrier(0, 0);
        land.addCarrier(0, 0);
        for (int i = 0; i < 5; i++) {
            Lands.hidden(land, 0, 1, 0);
        }
        for (int i = 5; i < 7; i++) {
            land.makeUp(0, 1, 0);
        }
        Check.same(land.take(0, 5), 6);
        Check.refuses(land, Check.NOT_NOW, () -> land.take(0, 6));
        land.hide(0, 5, true);
        Check.refuses(land, Check.NOT_NOW, () -> land.take(0, 6));
        Check.same(land.take(1, 6), 1);
        Check.same(land.carrier(0, 3), 6);
    }

    /** "all hidden rumours are gone": then there is room for others. */
    static void promise10ASearchMakesRoom() {
        RumourCustoms land = Lands.withRoad(9, 1000);
        for (int i = 0; i < 6; i++) {
            Lands.hidden(land, 0, 1, 0);
            land.makeUp(1, 1, 0);
        }
        land.go(0, 1, 0);
        land.pass(3);
        for (int i = 0; i < 6; i++) {
            Check.same(land.take(0, 2 * i + 1), i + 1);
        }
        Check.same(land.carrier(0, 4), 0);
    }

    /** "Takes a rumour ... into the bag (not hidden)": also one that was hidden before. */
    static void promise10NotHidden() {
        RumourCustoms land = Lands.withTowns(1);
        land.addCarrier(0, 0);
        land.addCarrier(0, 0);
        Lands.hidden(land, 0, 1, 0);
        land.leave(0, 0);
        land.take(1, 0);
        Check.same(land.rumour(0, 6), 0);
        Check.same(land.carrier(1, 4), 0);
        land.leave(1, 0);
        land.take(0, 0);
        Check.same(land.rumour(0, 6), 0);
        Check.same(land.carrier(0, 4), 0);
    }

    /** "Throws IndexOutOfBoundsException if there is no such carrier or rumour". */
    static void promise11NoSuchCarrierOrRumour() {
        RumourCustoms land = twoCarriersAndThreeRumours();
        Check.refusesOutside(land, Check.NO_SUCH, 0, 1, carrier -> land.leave(carrier, 1));
        Check.refusesOutside(land, Check.NO_SUCH, 0, 2, rumour -> land.leave(1, rumour));
        Check.same(land.leave(1, 1), 0);
    }

    /** "Throws IllegalStateException if the carrier is on the way": until the last hour. */
    static void promise11OnTheWay() {
        RumourCustoms land = Lands.withRoad(0, 1000);
        Lands.inBag(land, 0, 1, 0);
        land.go(0, 1, 0);
        Check.refuses(land, Check.NOT_NOW, () -> land.leave(0, 0));
        land.pass(2);
        Check.refuses(land, Check.NOT_NOW, () -> land.leave(0, 0));
        land.pass(1);
        Check.same(land.leave(0, 0), 0);
        Check.same(land.rumour(0, 4), 1);
    }

    /** "... or does not have it": in the town, in another's bag, gone, or left just now. */
    static void promise11DoesNotHaveIt() {
        RumourCustoms land = Lands.withGoneRumour();
        land.addCarrier(1, 0);
        land.makeUp(1, 1, 0);
        Lands.inBag(land, 0, 1, 0);
        Lands.inBag(land, 1, 1, 0);
        Check.refuses(land, Check.NOT_NOW, () -> land.leave(0, 0));
        Check.refuses(land, Check.NOT_NOW, () -> land.leave(0, 1));
        Check.refuses(land, Check.NOT_NOW, () -> land.leave(0, 3));
        Check.same(land.leave(0, 2), 0);
        Check.refuses(land, Check.NOT_NOW, () -> land.leave(0, 2));
    }

    /** "Returns how many are in the bag": from a full one to an empty one, others' bags apart. */
    static void promise11FromFullToEmpty() {
        RumourCustoms land = Lands.withTowns(1);
        land.addCarrier(0, 0);
        land.addCarrier(0, 0);
        Lands.inBag(land, 1, 1, 0);
        for (int i = 1; i <= 6; i++) {
            Lands.inBag(land, 0, 1, 0);
        }
        land.hide(0, 2, true);
        for (int i = 1; i <= 6; i++) {
            Check.same(land.leave(0, i), 6 - i);
        }
        Check.same(land.town(0, 0), 6);
        Check.same(land.carrier(1, 3), 1);
    }

    /** "Throws IndexOutOfBoundsException if there is no such carrier or rumour". */
    static void promise12NoSuchCarrierOrRumour() {
        RumourCustoms land = twoCarriersAndThreeRumours();
        Check.refusesOutside(land, Check.NO_SUCH, 0, 1, carrier -> land.hide(carrier, 1, true));
        Check.refusesOutside(land, Check.NO_SUCH, 0, 2, rumour -> land.hide(1, rumour, true));
        Check.refusesOutside(land, Check.NO_SUCH, 0, 1, carrier -> land.hide(carrier, 1, false));
        Check.refusesOutside(land, Check.NO_SUCH, 0, 2, rumour -> land.hide(1, rumour, false));
        Check.same(land.hide(1, 1, true), 1);
    }

    /** "Throws IllegalStateException if the carrier does not have it": in the town, another's, or gone. */
    static void promise12DoesNotHaveIt() {
        RumourCustoms land = Lands.withGoneRumour();
        land.addCarrier(1, 0);
        land.makeUp(1, 1, 0);
        Lands.inBag(land, 1, 1, 0);
        for (int i = 0; i < 3; i++) {
            int rumour = i;
            Check.refuses(land, Check.NOT_NOW, () -> land.hide(0, rumour, true));
            Check.refuses(land, Check.NOT_NOW, () -> land.hide(0, rumour, false));
        }
        Check.same(land.rumour(0, 6), 0);
        Check.same(land.rumour(1, 6), 0);
        Check.same(land.rumour(2, 6), 0);
    }

    /** "Hides a rumour in the bag, or no more (also on the way)": on each hour of it. */
    static void promise12AlsoOnTheWay() {
        RumourCustoms land = Lands.withRoad(0, 1000);
        Lands.inBag(land, 0, 1, 0);
        land.go(0, 1, 0);
        for (int hour = 0; hour < 3; hour++) {
            Check.same(land.hide(0, 0, true), 1);
            Check.same(land.hide(0, 0, false), 0);
            Check.same(land.hide(0, 0, true), 1);
            land.pass(1);
        }
        Check.same(land.rumour(0, 6), 1);
    }

    /** "Returns how many are hidden in the bag": from none to 6 and back, hidden twice is hidden once. */
    static void promise12FromNoneTo6() {
        RumourCustoms land = Lands.withTowns(1);
        land.addCarrier(0, 0);
        land.addCarrier(0, 0);
        Lands.hidden(land, 1, 1, 0);
        for (int i = 1; i <= 6; i++) {
            Lands.inBag(land, 0, 1, 0);
        }
        Check.same(land.hide(0, 1, false), 0);
        for (int i = 1; i <= 6; i++) {
            Check.same(land.hide(0, i, true), i);
            Check.same(land.hide(0, i, true), i);
        }
        for (int i = 1; i <= 6; i++) {
            Check.same(land.hide(0, i, false), 6 - i);
        }
        Check.same(land.carrier(1, 4), 1);
    }

    /** "Throws IndexOutOfBoundsException if there is no such carrier or rumour". */
    static void promise13NoSuchCarrierOrRumour() {
        RumourCustoms land = twoCarriersAndThreeRumours();
        Check.refusesOutside(land, Check.NO_SUCH, 0, 1, carrier -> land.tell(carrier, 1));
        Check.refusesOutside(land, Check.NO_SUCH, 0, 2, rumour -> land.tell(1, rumour));
        Check.same(land.tell(1, 1), 3);
    }

    /** "Throws IllegalStateException if the carrier is on the way": also if none would be made. */
    static void promise13OnTheWay() {
        RumourCustoms land = Lands.withRoad(0, 1000);
        Lands.inBag(land, 0, 1, 0);
        land.tell(0, 0);
        land.go(0, 1, 0);
        Check.refuses(land, Check.NOT_NOW, () -> land.tell(0, 0));
        land.pass(2);
        Check.refuses(land, Check.NOT_NOW, () -> land.tell(0, 0));
        land.pass(1);
        Check.same(land.tell(0, 0), 2);
        land.go(0, 0, 0);
        Check.refuses(land, Check.NOT_NOW, () -> land.tell(0, 0));
    }

    /** "... or does not have it": in the town, in another's bag, or gone. */
    static void promise13DoesNotHaveIt() {
        RumourCustoms land = Lands.withGoneRumour();
        land.addCarrier(1, 0);
        land.makeUp(1, 1, 0);
        Lands.inBag(land, 1, 1, 0);
        Check.refuses(land, Check.NOT_NOW, () -> land.tell(0, 0));
        Check.refuses(land, Check.NOT_NOW, () -> land.tell(0, 1));
        Check.refuses(land, Check.NOT_NOW, () -> land.tell(0, 2));
        Check.same(land.count(3), 3);
    }

    /** "... or one would be made, and there are 60": also if one of them is gone. */
    static void promise13OneWouldBeMadeAndThereAre60() {
        RumourCustoms land = Lands.withGoneRumour();
        Lands.inBag(land, 0, 1, 0);
        Lands.inBag(land, 0, 1, 0);
        for (int i = 3; i < 59; i++) {
            land.makeUp(0, 1, 0);
        }
        Check.same(land.tell(0, 1), 59);
        Check.refuses(land, Check.NOT_NOW, () -> land.tell(0, 2));
        Check.same(land.count(3), 60);
        Check.same(land.count(4), 1);
    }

    /** "-1 if none is made": then there may be 60. */
    static void promise13NoneIsMadeWhereThereAre60() {
        RumourCustoms land = Lands.withAllRumours();
        Check.refuses(land, Check.NOT_NOW, () -> land.tell(0, 1));
        land.leave(0, 0);
        Check.refuses(land, Check.NOT_NOW, () -> land.tell(0, 1));
        RumourCustoms told = Lands.withTowns(1);
        told.addCarrier(0, 0);
        Lands.inBag(told, 0, 1, 0);
        told.tell(0, 0);
        for (int i = 2; i < 60; i++) {
            told.makeUp(0, 1, 0);
        }
        long before = told.digest();
        Check.same(told.tell(0, 0), -1);
        Check.same(told.digest(), before);
    }

    /** "a depth, 0 to 99": with 60 rumours the depth 59 is reached, and the next one is refused for the 60. */
    static void promise13TheDeepestThatCanBeReached() {
        RumourCustoms land = Lands.withDeepest();
        Check.row(what -> land.rumour(59, what), 1, 59, 5, 0, -1, 0, 0);
        Check.refuses(land, Check.NOT_NOW, () -> land.tell(0, 59));
        land.leave(0, 58);
        Check.same(land.tell(0, 59), -1);
        land.leave(0, 59);
        Check.same(land.spread(3, 1), 59);
    }

    /** "whose depth is not greater than that": as great is not greater, one more is. */
    static void promise13NotGreaterThanThat() {
        RumourCustoms land = Lands.withTowns(1);
        land.addCarrier(0, 0);
        Lands.inBag(land, 0, 1, 0);
        Check.same(land.tell(0, 0), 1);
        // The depth 1 is there, and 1 is what is told: as great.
        Check.same(land.tell(0, 0), -1);
        land.take(0, 1);
        Check.same(land.tell(0, 1), 2);
        // The depth 2 is there, and 1 is what is told: one more.
        Check.same(land.tell(0, 0), 3);
        land.leave(0, 0);
        // The depth 0 is there, and 2 is what is told: less.
        Check.same(land.tell(0, 1), -1);
        Check.same(land.count(3), 4);
    }

    /** "If the town has one of this family already": bags, other towns, gone ones, other families do not count. */
    static void promise13OnlyWhatTheTownHas() {
        RumourCustoms land = Lands.withRoad(9, 1000);
        Lands.inBag(land, 0, 1, 0);
        Check.same(land.tell(0, 0), 1);
        land.take(0, 1);
        land.hide(0, 1, true);
        land.makeUp(1, 1, 0);
        land.go(0, 1, 0);
        Check.same(land.rumour(1, 5), -1);
        land.pass(3);
        Check.same(land.tell(0, 0), 3);
        land.take(0, 3);
        Check.same(land.tell(0, 0), 4);
        land.go(0, 0, 0);
        land.pass(3);
        Check.same(land.tell(0, 0), 5);
        Check.row(what -> land.rumour(5, what), 1, 1, 0, 0, 0, -1, 0);
    }

    /** "of the same family, length and proofs, with a depth that is 1 more; the carrier keeps its own". */
    static void promise13TheCarrierKeepsItsOwn() {
        RumourCustoms land = Lands.withTowns(1);
        land.addCarrier(0, 0);
        land.makeUp(0, 1, 0);
        Lands.hidden(land, 0, 30, 5);
        Check.same(land.tell(0, 1), 2);
        Check.row(what -> land.rumour(2, what), 30, 1, 5, 1, 0, -1, 0);
        Check.row(what -> land.rumour(1, what), 30, 0, 5, 1, -1, 0, 1);
        Check.same(land.carrier(0, 3), 1);
    }

    /** One town; rumour 0 in the bag of carrier 0, rumour 1 in that of carrier 1, rumour 2 in the town. */
    private static RumourCustoms twoCarriersAndThreeRumours() {
        RumourCustoms land = Lands.withTowns(1);
        land.addCarrier(0, 0);
        land.addCarrier(0, 0);
        Lands.inBag(land, 0, 1, 0);
        Lands.inBag(land, 1, 1, 0);
        land.makeUp(0, 1, 0);
        return land;
    }
}
