/** The sentences of promises 5 to 8 that name an edge, and those of the terms on rumours. */
final class EdgesOfRumoursTest {
    /** "Throws IndexOutOfBoundsException if there is no such town". */
    static void promise5NoSuchTown() {
        RumourCustoms land = Lands.withTowns(9);
        Check.refusesOutside(land, Check.NO_SUCH, 0, 8, town -> land.makeUp(town, 1, 1));
        Check.same(land.makeUp(8, 1, 1), 0);
        land.addTown();
        Check.refusesOutside(land, Check.NO_SUCH, 0, 9, town -> land.makeUp(town, 1, 1));
        Check.same(land.makeUp(9, 1, 1), 1);
    }

    /** "Throws IllegalArgumentException if length is not 1 to 30"; "A rumour has a length, 1 to 30 words". */
    static void promise5LengthFrom1To30() {
        RumourCustoms land = Lands.withTowns(1);
        Check.refusesOutside(land, Check.BAD_NUMBER, 1, 30, length -> land.makeUp(0, length, 1));
        for (int length = 1; length <= 30; length++) {
            Check.same(land.makeUp(0, length, 1), length - 1);
            Check.same(land.rumour(length - 1, 0), length);
        }
    }

    /** "... or proofs is not 0 to 5"; "proofs, 0 to 5". */
    static void promise5ProofsFrom0To5() {
        RumourCustoms land = Lands.withTowns(1);
        Check.refusesOutside(land, Check.BAD_NUMBER, 0, 5, proofs -> land.makeUp(0, 1, proofs));
        for (int proofs = 0; proofs <= 5; proofs++) {
            Check.same(land.makeUp(0, 1, proofs), proofs);
            Check.same(land.rumour(proofs, 2), proofs);
        }
    }

    /** "Throws IllegalStateException if there are 60": the sixtieth is made, the next never. */
    static void promise5FullWith60() {
        RumourCustoms land = Lands.withTowns(2);
        for (int i = 0; i < 59; i++) {
            land.makeUp(1, 30, 5);
        }
        Check.same(land.makeUp(0, 2, 3), 59);
        for (int i = 0; i < 3; i++) {
            Check.refuses(land, Check.NOT_NOW, () -> land.makeUp(0, 1, 0));
        }
        Check.same(land.count(3), 60);
        Check.row(what -> land.rumour(59, what), 2, 0, 3, 59, 0, -1, 0);
        Check.refuses(land, Check.NO_SUCH, () -> land.rumour(60, 0));
    }

    /** "There are at most 60, numbered likewise (also those that are gone)": and those that were told. */
    static void promise5GoneAndToldOnesAreOfThe60() {
        RumourCustoms land = Lands.withGoneRumour();
        Lands.inBag(land, 0, 1, 0);
        Check.same(land.tell(0, 1), 2);
        for (int i = 3; i < 60; i++) {
            Check.same(land.makeUp(0, 1, 0), i);
        }
        Check.refuses(land, Check.NOT_NOW, () -> land.makeUp(0, 1, 0));
        Check.same(land.count(3), 60);
        Check.same(land.count(4), 1);
    }

    /** "its own for one that was made up; this one has the depth 0". */
    static void promise5OneMadeUpIsItsOwnFamily() {
        RumourCustoms land = Lands.withTowns(1);
        land.addCarrier(0, 0);
        Lands.inBag(land, 0, 1, 0);
        land.tell(0, 0);
        Check.same(land.makeUp(0, 1, 0), 2);
        Check.same(land.rumour(2, 1), 0);
        Check.same(land.rumour(2, 3), 2);
    }

    /** "Throws IndexOutOfBoundsException if there is no such rumour, or what is not 0 to 6". */
    static void promise6NoSuchRumourOrQuestion() {
        RumourCustoms land = Lands.withTowns(1);
        Check.refusesOutside(land, Check.NO_SUCH, 0, -1, rumour -> land.rumour(rumour, 0));
        for (int i = 0; i < 59; i++) {
            land.makeUp(0, 1, 1);
        }
        Check.refusesOutside(land, Check.NO_SUCH, 0, 58, rumour -> land.rumour(rumour, 0));
        land.makeUp(0, 1, 1);
        Check.same(land.rumour(59, 3), 59);
        Check.refusesOutside(land, Check.NO_SUCH, 0, 59, rumour -> land.rumour(rumour, 0));
        Check.refusesOutside(land, Check.NO_SUCH, 0, 6, what -> land.rumour(59, what));
    }

    /** "4 the town where it is, -1 if it is in none": not in a bag either, whose carrier is in a town. */
    static void promise6TheTownOrNone() {
        RumourCustoms land = Lands.withRoad(0, 1000);
        land.makeUp(1, 5, 0);
        Lands.inBag(land, 0, 5, 0);
        Check.same(land.rumour(0, 4), 1);
        Check.same(land.rumour(1, 4), -1);
        land.leave(0, 1);
        Check.same(land.rumour(1, 4), 0);
        land.take(0, 1);
        land.go(0, 1, 0);
        Check.same(land.rumour(1, 4), -1);
        land.pass(3);
        Check.same(land.rumour(1, 4), -1);
        land.leave(0, 1);
        Check.same(land.rumour(1, 4), 1);
    }

    /** "5 the carrier in whose bag it is, -1 if it is in none": also on the way. */
    static void promise6TheCarrierOrNone() {
        RumourCustoms land = Lands.withRoad(0, 1000);
        for (int i = 1; i < 8; i++) {
            land.addCarrier(0, 1000);
        }
        int rumour = land.makeUp(0, 5, 0);
        Check.same(land.rumour(rumour, 5), -1);
        for (int i = 0; i < 8; i++) {
            land.take(i, rumour);
            Check.same(land.rumour(rumour, 5), i);
            land.leave(i, rumour);
            Check.same(land.rumour(rumour, 5), -1);
        }
        land.take(7, rumour);
        land.go(7, 1, 0);
        Check.same(land.rumour(rumour, 5), 7);
    }

    /** "(4 and 5: both -1 if it is gone)": what it was stays. */
    static void promise6BothAreNoneIfItIsGone() {
        RumourCustoms land = Lands.withGoneRumour();
        Check.row(what -> land.rumour(0, what), 8, 0, 2, 0, -1, -1, 0);
        land.pass(100);
        Check.row(what -> land.rumour(0, what), 8, 0, 2, 0, -1, -1, 0);
    }

    /** "6 1 if it is hidden, else 0": neither in a town nor gone it is, and shown ones are not. */
    static void promise6HiddenOnlyInABag() {
        RumourCustoms land = Lands.withRoad(9, 1000);
        land.makeUp(0, 1, 0);
        Lands.hidden(land, 0, 1, 0);
        Lands.hidden(land, 0, 1, 0);
        Lands.inBag(land, 0, 1, 0);
        Check.same(land.rumour(0, 6), 0);
        Check.same(land.rumour(1, 6), 1);
        Check.same(land.rumour(2, 6), 1);
        Check.same(land.rumour(3, 6), 0);
        land.leave(0, 1);
        Check.same(land.rumour(1, 6), 0);
        land.go(0, 1, 0);
        Check.same(land.rumour(2, 6), 0);
        Check.same(land.rumour(3, 6), 0);
    }

    /** "the number of the rumour of which it came by being told, and of which that one came, and so on". */
    static void promise6TheFamilyOfTheDeepest() {
        RumourCustoms land = Lands.withDeepest();
        for (int i = 0; i < 60; i++) {
            Check.same(land.rumour(i, 3), 0);
            Check.same(land.rumour(i, 1), i);
        }
    }

    /** "Throws IndexOutOfBoundsException if there is no such town, or what is not 0 to 3". */
    static void promise7NoSuchTownOrQuestion() {
        RumourCustoms land = Lands.withTowns(10);
        Check.refusesOutside(land, Check.NO_SUCH, 0, 9, town -> land.town(town, 0));
        Check.refusesOutside(land, Check.NO_SUCH, 0, 3, what -> land.town(9, what));
        RumourCustoms small = Lands.withTowns(1);
        Check.refusesOutside(small, Check.NO_SUCH, 0, 0, town -> small.town(town, 3));
    }

    /** "-1 if there is none": an empty town, from which all was taken, beside a full one. */
    static void promise7AnEmptyTown() {
        RumourCustoms land = Lands.withTowns(3);
        Check.row(what -> land.town(1, what), 0, 0, -1, 0);
        land.addCarrier(1, 0);
        land.makeUp(0, 1, 0);
        land.makeUp(2, 1, 0);
        Lands.inBag(land, 0, 1, 0);
        Check.row(what -> land.town(1, what), 0, 0, -1, 1);
        land.leave(0, 2);
        Check.row(what -> land.town(1, what), 1, 1, 2, 1);
    }

    /** "0 rumours that are there, 1 families that it knows ..., 3 carriers that are there": all there can be. */
    static void promise7AFullTown() {
        RumourCustoms land = Lands.withTowns(10);
        for (int i = 0; i < 60; i++) {
            land.makeUp(9, 1, 0);
        }
        for (int i = 0; i < 8; i++) {
            land.addCarrier(9, 0);
        }
        Check.row(what -> land.town(9, what), 60, 60, 0, 8);
        Check.row(what -> land.town(8, what), 0, 0, -1, 0);
    }

    /** "1 families that it knows"; "A town knows a family, if a rumour of it is there": several are one. */
    static void promise7SeveralOfOneFamily() {
        RumourCustoms land = Lands.withDeepest();
        int there = land.town(1, 0);
        Check.holds(there > 50, "there are too few rumours: " + there);
        Check.same(land.town(1, 1), 1);
        Check.same(land.town(1, 2), there - 1);
        Check.row(what -> land.town(0, what), 0, 0, -1, 1);
        land.leave(0, 59);
        Check.row(what -> land.town(0, what), 1, 1, 59, 1);
        land.leave(0, 57);
        Check.row(what -> land.town(0, what), 2, 1, 59, 1);
    }

    /** "2 the rumour there with the greatest depth, of several that with the smallest number". */
    static void promise7TheDeepestOfSeveral() {
        RumourCustoms land = Lands.withTowns(1);
        land.addCarrier(0, 0);
        Lands.inBag(land, 0, 1, 0);
        Lands.inBag(land, 0, 1, 0);
        land.makeUp(0, 1, 0);
        land.makeUp(0, 1, 0);
        Check.same(land.town(0, 2), 2);
        Check.same(land.tell(0, 1), 4);
        Check.same(land.tell(0, 0), 5);
        land.makeUp(0, 1, 0);
        Check.same(land.town(0, 2), 4);
        land.take(0, 4);
        Check.same(land.town(0, 2), 5);
        land.take(0, 5);
        Check.same(land.town(0, 2), 2);
    }

    /** "3 carriers that are there": one on the way is neither where it was nor where it goes. */
    static void promise7CarriersOnTheWayAreInNoTown() {
        RumourCustoms land = Lands.withRoad(0, 0);
        land.addCarrier(1, 0);
        land.go(0, 1, 0);
        Check.same(land.town(0, 3), 0);
        Check.same(land.town(1, 3), 1);
        land.pass(2);
        Check.same(land.town(1, 3), 1);
        land.pass(1);
        Check.same(land.town(0, 3), 0);
        Check.same(land.town(1, 3), 2);
    }

    /** "Throws IndexOutOfBoundsException if there is no such town or rumour". */
    static void promise8NoSuchTownOrRumour() {
        RumourCustoms land = Lands.withTowns(3);
        land.makeUp(2, 1, 1);
        land.makeUp(2, 1, 1);
        Check.refusesOutside(land, Check.NO_SUCH, 0, 2, town -> land.heard(town, 0));
        Check.refusesOutside(land, Check.NO_SUCH, 0, 1, rumour -> land.heard(0, rumour));
        Check.same(land.heard(2, 1), 1);
    }

    /** "-1 if the town does not know it": others know it, or it is in a bag there, or gone. */
    static void promise8TheTownDoesNotKnowIt() {
        RumourCustoms land = Lands.withGoneRumour();
        Check.same(land.heard(0, 0), -1);
        Check.same(land.heard(1, 0), -1);
        Lands.inBag(land, 0, 1, 0);
        Check.same(land.heard(1, 1), -1);
        land.makeUp(0, 1, 0);
        Check.same(land.heard(1, 2), -1);
        Check.same(land.heard(0, 2), 2);
        land.leave(0, 1);
        Check.same(land.heard(1, 1), 1);
        Check.same(land.heard(0, 1), -1);
    }

    /** "with the least depth, of several that with the smallest number": the asked one itself need not be it. */
    static void promise8TheLeastDeepOfSeveral() {
        RumourCustoms land = Lands.withTowns(2);
        land.makeUp(0, 1, 0);
        land.addCarrier(0, 0);
        Lands.inBag(land, 0, 1, 0);
        Check.same(land.tell(0, 1), 2);
        land.take(0, 2);
        Check.same(land.tell(0, 2), 3);
        Check.same(land.heard(0, 1), 3);
        Check.same(land.tell(0, 1), 4);
        Check.same(land.heard(0, 3), 4);
        land.leave(0, 2);
        Check.same(land.heard(0, 3), 2);
        Check.same(land.heard(0, 4), 2);
        land.leave(0, 1);
        Check.same(land.heard(0, 4), 1);
        Check.same(land.heard(0, 0), 0);
    }

    /** "Returns the rumour of its family that is in the town": of one that is gone the family is known still. */
    static void promise8TheFamilyOfAGoneRumour() {
        RumourCustoms land = Lands.withRoad(9, 1000);
        Lands.hidden(land, 0, 1, 0);
        land.tell(0, 0);
        land.go(0, 1, 0);
        Check.same(land.count(4), 1);
        Check.same(land.heard(0, 0), 1);
        Check.same(land.heard(1, 0), -1);
    }
}
