/** The sentences of promises 14 to 16 that name an edge, and those of the terms on duties and going. */
final class EdgesOfJourneysTest {
    /** "The duty ... is tariff * length and surcharge * depth (both together)": 0, the one, the other, both. */
    static void promise14BothTogether() {
        RumourCustoms land = Lands.withTowns(5);
        land.build(0, 1, 1, 0, 0, 0);
        land.build(0, 2, 1, 3, 0, 0);
        land.build(0, 3, 1, 0, 5, 0);
        land.build(0, 4, 1, 3, 5, 0);
        land.addCarrier(0, 0);
        Lands.inBag(land, 0, 7, 1);
        land.tell(0, 0);
        land.leave(0, 0);
        land.take(0, 1);
        Check.same(land.wouldPay(0, 1, 0), 0);
        Check.same(land.wouldPay(0, 2, 0), 21);
        Check.same(land.wouldPay(0, 3, 0), 5);
        Check.same(land.wouldPay(0, 4, 0), 26);
        // Half of 26; cut each by itself it would be 10 and 2.
        Check.same(land.wouldPay(0, 4, 1), 13);
    }

    /** The dearest of all: "tariff, 0 to 20", "surcharge, 0 to 30", "length, 1 to 30", at the greatest depth. */
    static void promise14TheDearestDuty() {
        RumourCustoms land = Lands.withTowns(2);
        land.build(0, 1, 9, 20, 30, 0);
        land.addCarrier(0, 1000000);
        Lands.inBag(land, 0, 30, 0);
        land.tell(0, 0);
        land.take(0, 1);
        Check.same(land.wouldPay(0, 1, 0), 600 + 630);
        RumourCustoms deep = Lands.withDeepest();
        deep.addTown();
        deep.build(0, 2, 9, 20, 30, 0);
        int due = 0;
        for (int rumour = 0; rumour < 60; rumour++) {
            due += deep.rumour(rumour, 5) == 0 ? 20 + 30 * rumour : 0;
        }
        Check.holds(due >= 20 + 30 * 59, "the deepest is not in the bag");
        Check.same(deep.go(0, 2, 0), due);
    }

    /** "With each proof that is burnt there it is the half of this (cut)": of each rumour by itself. */
    static void promise14TheHalfIsCut() {
        RumourCustoms land = Lands.withTowns(2);
        land.build(0, 1, 1, 1, 0, 0);
        land.addCarrier(0, 1000);
        Lands.inBag(land, 0, 29, 5);
        int[] halves = {29, 14, 7, 3, 1, 0};
        for (int burn = 0; burn <= 5; burn++) {
            Check.same(land.wouldPay(0, 1, burn), halves[burn]);
        }
        Lands.inBag(land, 0, 29, 5);
        for (int burn = 0; burn <= 5; burn++) {
            Check.same(land.wouldPay(0, 1, burn), 2 * halves[burn]);
        }
        Check.same(land.go(0, 1, 1), 28);
    }

    /** "as many of its proofs as are to be burnt, at most all that it has, are burnt". */
    static void promise14AtMostAllThatItHas() {
        RumourCustoms land = Lands.withTowns(2);
        land.build(0, 1, 1, 2, 0, 0);
        land.addCarrier(0, 1000);
        for (int proofs = 0; proofs <= 5; proofs++) {
            Lands.inBag(land, 0, 16, proofs);
        }
        Check.same(land.go(0, 1, 3), 32 + 16 + 8 + 4 + 4 + 4);
        Check.same(land.count(7), 0 + 1 + 2 + 3 + 3 + 3);
        int[] left = {0, 0, 0, 0, 1, 2};
        for (int rumour = 0; rumour < 6; rumour++) {
            Check.same(land.rumour(rumour, 2), left[rumour]);
        }
        land.pass(1);
        Check.same(land.go(0, 0, 5), 32 + 32 + 32 + 32 + 16 + 8);
        Check.same(land.count(7), 15);
    }

    /** "burn: how many proofs of each rumour are to be burnt": 0 burns none, 5 all that there can be. */
    static void promise14Burn0AndBurn5() {
        RumourCustoms land = Lands.withTowns(2);
        land.build(0, 1, 1, 20, 0, 0);
        land.addCarrier(0, 1000);
        Lands.inBag(land, 0, 30, 5);
        Check.same(land.go(0, 1, 0), 600);
        Check.same(land.rumour(0, 2), 5);
        Check.same(land.count(7), 0);
        land.pass(1);
        Check.same(land.go(0, 0, 5), 18);
        Check.same(land.rumour(0, 2), 0);
        Check.same(land.count(7), 5);
    }

    /** "For each rumour in the bag that is not hidden": an empty bag, and one with hidden ones alone, owe nothing. */
    static void promise14AnEmptyBagOwesNothing() {
        RumourCustoms land = Lands.withRoad(0, 0);
        Check.same(land.go(0, 1, 5), 0);
        land.pass(3);
        Lands.hidden(land, 0, 30, 5);
        Check.same(land.go(0, 0, 5), 0);
        Check.same(land.rumour(0, 2), 5);
        Check.row(land::count, 3, 2, 1, 1, 0, 1, 1, 0, 0, 0, 0);
    }

    /** "if there is not so much in it, the carrier does not go, and nothing is burnt": one coin is missing. */
    static void promise14NotSoMuchInThePurse() {
        RumourCustoms land = Lands.withRoad(9, 24);
        Lands.inBag(land, 0, 5, 3);
        Lands.hidden(land, 0, 1, 0);
        Check.refuses(land, Check.NOT_NOW, () -> land.go(0, 1, 1));
        Check.row(what -> land.carrier(0, what), 0, 0, 24, 2, 1, 0);
        Check.row(what -> land.rumour(0, what), 5, 0, 3, 0, -1, 0, 0);
        Check.row(what -> land.rumour(1, what), 1, 0, 0, 1, -1, 0, 1);
        Check.row(what -> land.road(0, 1, what), 1, 3, 10, 7, 9, 0, 0);
        Check.row(land::count, 0, 2, 1, 2, 0, 1, 0, 0, 0, 0, 0);
    }

    /** "... or the purse does not hold what is owed": it holds just that; a fine need not be in it. */
    static void promise14JustSoMuchInThePurse() {
        RumourCustoms land = Lands.withRoad(9, 25);
        Lands.inBag(land, 0, 5, 3);
        Lands.hidden(land, 0, 1, 0);
        Check.same(land.go(0, 1, 1), 25);
        Check.row(what -> land.carrier(0, what), 1, 3, 0, 1, 0, 25);
        Check.same(land.count(4), 1);
        Check.same(land.count(9), 0);
        Check.same(land.count(10), 1);
    }

    /** "the attention of the gate becomes its strictness more, and 1 more for each rumour that is hidden". */
    static void promise14TheAttentionGrows() {
        RumourCustoms land = Lands.withRoad(1, 1000);
        Lands.inBag(land, 0, 1, 0);
        for (int i = 0; i < 3; i++) {
            Lands.hidden(land, 0, 1, 0);
        }
        land.go(0, 1, 0);
        Check.same(land.road(0, 1, 5), 4);
        land.pass(3);
        land.hide(0, 1, false);
        land.go(0, 0, 0);
        Check.same(land.road(0, 1, 5), 7);
        RumourCustoms lax = Lands.withRoad(0, 1000);
        lax.go(0, 1, 0);
        Check.same(lax.road(0, 1, 5), 0);
    }

    /** "If it is at least 10 then, the carrier is searched": not at 9, at 10, and at 11. */
    static void promise14SearchedFrom10() {
        for (int strictness = 7; strictness <= 9; strictness++) {
            RumourCustoms land = Lands.withRoad(strictness, 1000);
            Lands.hidden(land, 0, 1, 0);
            Lands.hidden(land, 0, 1, 0);
            boolean isSearched = strictness >= 8;
            Check.same(land.go(0, 1, 0), isSearched ? 60 : 0);
            Check.same(land.count(10), isSearched ? 1 : 0);
            Check.same(land.count(4), isSearched ? 2 : 0);
            Check.same(land.road(0, 1, 5), isSearched ? strictness - 8 : 9);
        }
    }

    /** The same limit without any hidden rumour: "the attention is 10 less", and nothing else. */
    static void promise14SearchedWithNothingHidden() {
        RumourCustoms land = Lands.withRoad(5, 1000);
        Lands.inBag(land, 0, 1, 0);
        Check.same(land.go(0, 1, 0), 10);
        Check.same(land.road(0, 1, 5), 5);
        land.pass(3);
        Check.same(land.go(0, 0, 0), 10);
        Check.same(land.road(0, 1, 5), 0);
        Check.row(land::count, 3, 2, 1, 1, 0, 1, 1, 0, 20, 0, 1);
        Check.same(land.carrier(0, 3), 1);
    }

    /** "all hidden rumours are gone": all 6, those of others and those that are shown not. */
    static void promise14AllHiddenOnesAreGone() {
        RumourCustoms land = Lands.withRoad(9, 1000000);
        land.addCarrier(0, 1000);
        Lands.hidden(land, 1, 1, 0);
        Lands.inBag(land, 1, 1, 0);
        land.makeUp(0, 1, 0);
        for (int i = 3; i < 9; i++) {
            Lands.hidden(land, 0, 1, 0);
        }
        land.go(0, 1, 0);
        Check.same(land.count(4), 6);
        for (int i = 3; i < 9; i++) {
            Check.same(land.rumour(i, 4), -1);
            Check.same(land.rumour(i, 5), -1);
        }
        Check.row(what -> land.carrier(0, what), 1, 3, 1000000 - 180, 0, 0, 180);
        Check.row(what -> land.carrier(1, what), 0, 0, 1000, 2, 1, 0);
        Check.same(land.rumour(2, 4), 0);
    }

    /** "a fine is paid ..., 3 times the duties of all of these (without burning)": cut only for the shown one. */
    static void promise14TheFineIsWithoutBurning() {
        RumourCustoms land = Lands.withRoad(9, 1000);
        Lands.hidden(land, 0, 3, 5);
        Lands.hidden(land, 0, 2, 0);
        Lands.inBag(land, 0, 3, 5);
        Check.same(land.wouldPay(0, 1, 5), 0 + 3 * 50);
        Check.same(land.go(0, 1, 5), 0 + 3 * 50);
        Check.same(land.count(7), 5);
        Check.same(land.rumour(0, 2), 5);
    }

    /** "... or all of the purse, if there is less": one coin less than the fine, just as much, one more. */
    static void promise14OrAllOfThePurse() {
        for (int purse = 29; purse <= 31; purse++) {
            RumourCustoms land = Lands.withRoad(9, purse);
            Lands.hidden(land, 0, 1, 0);
            Check.same(land.go(0, 1, 0), Math.min(purse, 30));
            Check.same(land.carrier(0, 2), purse == 31 ? 1 : 0);
            Check.same(land.count(9), Math.min(purse, 30));
            Check.same(land.count(8), 0);
            Check.same(land.count(4), 1);
        }
    }

    /** A fine with an empty purse, and one of duties that are 0: nothing is paid, and what is hidden is gone. */
    static void promise14AFineOfNothing() {
        RumourCustoms poor = Lands.withRoad(9, 0);
        Lands.hidden(poor, 0, 30, 5);
        Check.same(poor.go(0, 1, 0), 0);
        Check.row(poor::count, 0, 2, 1, 1, 1, 1, 1, 0, 0, 0, 1);
        RumourCustoms free = Lands.withTowns(2);
        free.build(0, 1, 1, 0, 30, 9);
        free.addCarrier(0, 1000);
        Lands.hidden(free, 0, 30, 5);
        Check.same(free.go(0, 1, 0), 0);
        Check.row(free::count, 0, 2, 1, 1, 1, 1, 1, 0, 0, 0, 1);
    }

    /** "and the attention is 10 less. (So it can stay above 10.)": then each next one is searched too. */
    static void promise14TheAttentionStaysAbove10() {
        RumourCustoms land = Lands.withRoad(9, 1000000);
        for (int i = 1; i <= 3; i++) {
            for (int k = 0; k < 6; k++) {
                Lands.hidden(land, 0, 1, 0);
            }
            land.go(0, i % 2, 0);
            land.pass(3);
            Check.same(land.road(0, 1, 5), 5 * i);
        }
        Check.same(land.count(10), 3);
        land.go(0, 0, 0);
        Check.same(land.road(0, 1, 5), 14);
        Check.same(land.count(10), 4);
    }

    /** "The carrier is in the other town behind as many hours as the road takes": for 1 to 9 hours. */
    static void promise14AsManyHoursAsTheRoadTakes() {
        RumourCustoms land = Lands.withTowns(10);
        for (int hours = 1; hours <= 9; hours++) {
            land.build(0, hours, hours, 0, 0, 0);
        }
        land.addCarrier(0, 0);
        for (int hours = 1; hours <= 9; hours++) {
            land.go(0, hours, 0);
            Check.same(land.carrier(0, 0), hours);
            Check.same(land.carrier(0, 1), hours);
            if (hours > 1) {
                land.pass(hours - 1);
                Check.same(land.town(hours, 3), 0);
            }
            Check.same(land.carrier(0, 1), 1);
            land.pass(1);
            Check.same(land.town(hours, 3), 1);
            land.go(0, 0, 0);
            land.pass(hours);
        }
        Check.same(land.count(0), 90);
    }

    /** "Throws IndexOutOfBoundsException if there is no such carrier or town". */
    static void promise14NoSuchCarrierOrTown() {
        RumourCustoms land = Lands.withRoad(0, 100);
        Check.refusesOutside(land, Check.NO_SUCH, 0, 0, carrier -> land.go(carrier, 1, 0));
        Check.refusesOutside(land, Check.NO_SUCH, 0, 1, town -> land.go(0, town, 0));
        Check.same(land.go(0, 1, 0), 0);
    }

    /** "Throws IllegalArgumentException if burn is not 0 to 5". */
    static void promise14BurnFrom0To5() {
        RumourCustoms land = Lands.withRoad(0, 100);
        Check.refusesOutside(land, Check.BAD_NUMBER, 0, 5, burn -> land.go(0, 1, burn));
        for (int burn = 0; burn <= 5; burn++) {
            Check.same(land.go(0, 1 - burn % 2, burn), 0);
            land.pass(3);
        }
    }

    /** "Throws IllegalStateException if the carrier is on the way": until the last hour. */
    static void promise14OnTheWay() {
        RumourCustoms land = Lands.withRoad(0, 100);
        land.go(0, 1, 0);
        Check.refuses(land, Check.NOT_NOW, () -> land.go(0, 0, 0));
        Check.refuses(land, Check.NOT_NOW, () -> land.go(0, 1, 0));
        land.pass(2);
        Check.refuses(land, Check.NOT_NOW, () -> land.go(0, 0, 0));
        Check.refuses(land, Check.NOT_NOW, () -> land.go(0, 1, 0));
        land.pass(1);
        Check.refuses(land, Check.NOT_NOW, () -> land.go(0, 1, 0));
        Check.same(land.go(0, 0, 0), 0);
    }

    /** "... there is no road": not to its own town, and not by way of another. */
    static void promise14NoRoad() {
        RumourCustoms land = Lands.withRoad(0, 100);
        land.addTown();
        land.build(1, 2, 1, 1, 1, 1);
        Check.refuses(land, Check.NOT_NOW, () -> land.go(0, 0, 0));
        Check.refuses(land, Check.NOT_NOW, () -> land.go(0, 2, 0));
        Check.same(land.count(6), 0);
    }

    /** "Throws IndexOutOfBoundsException if there is no such carrier, or what is not 0 to 5". */
    static void promise15NoSuchCarrierOrQuestion() {
        RumourCustoms land = Lands.withTowns(1);
        Check.refusesOutside(land, Check.NO_SUCH, 0, -1, carrier -> land.carrier(carrier, 0));
        for (int i = 0; i < 8; i++) {
            land.addCarrier(0, i);
            int last = i;
            Check.refusesOutside(land, Check.NO_SUCH, 0, last, carrier -> land.carrier(carrier, 2));
            Check.same(land.carrier(last, 2), i);
        }
        Check.refusesOutside(land, Check.NO_SUCH, 0, 5, what -> land.carrier(7, what));
    }

    /** "1 the hours until then (0 in a town)": also after more hours than the road takes. */
    static void promise15TheHoursUntilThen() {
        RumourCustoms land = Lands.withRoad(0, 0);
        Check.same(land.carrier(0, 1), 0);
        land.pass(5);
        Check.same(land.carrier(0, 1), 0);
        land.go(0, 1, 0);
        Check.same(land.carrier(0, 1), 3);
        land.pass(100);
        Check.same(land.carrier(0, 1), 0);
        Check.same(land.carrier(0, 0), 1);
    }

    /** "5 what this one has paid in all": of a refused journey nothing. */
    static void promise15WhatWasPaidInAll() {
        RumourCustoms land = Lands.withRoad(0, 100);
        Lands.inBag(land, 0, 5, 0);
        land.go(0, 1, 0);
        land.pass(3);
        land.go(0, 0, 0);
        land.pass(3);
        Check.row(what -> land.carrier(0, what), 0, 0, 0, 1, 0, 100);
        Check.refuses(land, Check.NOT_NOW, () -> land.go(0, 1, 0));
        Check.row(what -> land.carrier(0, what), 0, 0, 0, 1, 0, 100);
    }

    /** "whatever is in the purse for what is owed": a purse of 0, and one coin too few; nothing is refused. */
    static void promise16WhateverIsInThePurse() {
        for (int purse = 0; purse <= 100; purse += 99) {
            RumourCustoms land = Lands.withRoad(0, purse);
            Lands.inBag(land, 0, 10, 1);
            Check.same(land.wouldPay(0, 1, 0), 100);
            Check.same(land.wouldPay(0, 1, 1), 50);
            Check.refuses(land, Check.NOT_NOW, () -> land.go(0, 1, 0));
        }
    }

    /** "(a fine is at most what would be left of it, and 0 if nothing would)": around what is owed, and the fine. */
    static void promise16AtMostWhatWouldBeLeft() {
        int[] purses = {0, 49, 50, 51, 79, 80, 81, 1000000};
        int[] fines = {0, 0, 0, 1, 29, 30, 30, 30};
        for (int i = 0; i < purses.length; i++) {
            RumourCustoms land = Lands.withRoad(9, purses[i]);
            Lands.inBag(land, 0, 5, 0);
            Lands.hidden(land, 0, 1, 0);
            Check.same(land.wouldPay(0, 1, 0), 50 + fines[i]);
        }
    }

    /** "what would be owed and paid ..., if this one went now": the search at 10, not at 9. */
    static void promise16ASearchFrom10() {
        RumourCustoms land = Lands.withRoad(8, 1000);
        Lands.hidden(land, 0, 1, 0);
        Lands.inBag(land, 0, 1, 0);
        Check.same(land.wouldPay(0, 1, 0), 10);
        land.hide(0, 1, true);
        Check.same(land.wouldPay(0, 1, 0), 60);
        Check.same(land.count(10), 0);
        Check.same(land.road(0, 1, 5), 0);
    }

    /** "-1 if there is no road": also to its own town. */
    static void promise16NoRoad() {
        RumourCustoms land = Lands.withRoad(0, 0);
        land.addTown();
        land.build(1, 2, 1, 1, 1, 1);
        Check.same(land.wouldPay(0, 2, 5), -1);
        Check.same(land.wouldPay(0, 0, 0), -1);
        Check.same(land.wouldPay(0, 1, 0), 0);
    }

    /** "Throws IndexOutOfBoundsException if there is no such carrier or town". */
    static void promise16NoSuchCarrierOrTown() {
        RumourCustoms land = Lands.withRoad(0, 100);
        Check.refusesOutside(land, Check.NO_SUCH, 0, 0, carrier -> land.wouldPay(carrier, 1, 0));
        Check.refusesOutside(land, Check.NO_SUCH, 0, 1, town -> land.wouldPay(0, town, 0));
    }

    /** "Throws IllegalArgumentException if burn is not 0 to 5": also without a road. */
    static void promise16BurnFrom0To5() {
        RumourCustoms land = Lands.withRoad(0, 100);
        Lands.inBag(land, 0, 16, 5);
        Check.refusesOutside(land, Check.BAD_NUMBER, 0, 5, burn -> land.wouldPay(0, 1, burn));
        Check.refusesOutside(land, Check.BAD_NUMBER, 0, 5, burn -> land.wouldPay(0, 0, burn));
        Check.same(land.wouldPay(0, 1, 0), 160);
        Check.same(land.wouldPay(0, 1, 5), 5);
    }

    /** "Throws IllegalStateException if the carrier is on the way": until the last hour, also without a road. */
    static void promise16OnTheWay() {
        RumourCustoms land = Lands.withRoad(0, 100);
        land.go(0, 1, 0);
        Check.refuses(land, Check.NOT_NOW, () -> land.wouldPay(0, 0, 0));
        land.pass(2);
        Check.refuses(land, Check.NOT_NOW, () -> land.wouldPay(0, 0, 0));
        Check.refuses(land, Check.NOT_NOW, () -> land.wouldPay(0, 1, 0));
        land.pass(1);
        Check.same(land.wouldPay(0, 0, 0), 0);
        Check.same(land.wouldPay(0, 1, 0), -1);
    }
}
