/** Lands that several tests begin with. */
final class Lands {
    private Lands() {
    }

    static RumourCustoms withTowns(int towns) {
        RumourCustoms land = new RumourCustoms();
        for (int i = 0; i < towns; i++) {
            land.addTown();
        }
        return land;
    }

    /** Towns 0 and 1 with a road of 3 hours, tariff 10, surcharge 7 and this strictness; carrier 0 is in 0. */
    static RumourCustoms withRoad(int strictness, int purse) {
        RumourCustoms land = withTowns(2);
        land.build(0, 1, 3, 10, 7, strictness);
        land.addCarrier(0, purse);
        return land;
    }

    /** Makes up a rumour where the carrier is, and takes it. */
    static int inBag(RumourCustoms land, int carrier, int length, int proofs) {
        int rumour = land.makeUp(land.carrier(carrier, 0), length, proofs);
        land.take(carrier, rumour);
        return rumour;
    }

    /** Makes up a rumour where the carrier is, takes and hides it. */
    static int hidden(RumourCustoms land, int carrier, int length, int proofs) {
        int rumour = inBag(land, carrier, length, proofs);
        land.hide(carrier, rumour, true);
        return rumour;
    }

    /**
     * Adds 8 carriers in the town 0 and makes up rumour 0, which they tell on: rumour n has the depth n,
     * and carrier n / 6 has it in the bag. The land is to be without carriers and rumours before.
     */
    static void tellOn(RumourCustoms land, int depth) {
        for (int i = 0; i < 8; i++) {
            land.addCarrier(0, 1000000);
        }
        inBag(land, 0, 8, 3);
        for (int i = 1; i <= depth; i++) {
            land.tell((i - 1) / 6, i - 1);
            land.take(i / 6, i);
        }
    }

    /**
     * Towns 0 and 1 with a road of 3 hours, tariff 10, surcharge 7 and strictness 9. Rumour 0 (8 words,
     * 2 proofs) was found at the gate and is gone; carrier 0 is in town 1, with a purse of 760.
     */
    static RumourCustoms withGoneRumour() {
        RumourCustoms land = withRoad(9, 1000);
        hidden(land, 0, 8, 2);
        land.go(0, 1, 0);
        land.pass(3);
        return land;
    }

    /** A town with 60 rumours of one word; carrier 0 is there, with 0 and 1 in the bag. */
    static RumourCustoms withAllRumours() {
        RumourCustoms land = withTowns(1);
        land.addCarrier(0, 0);
        inBag(land, 0, 1, 0);
        inBag(land, 0, 1, 0);
        for (int i = 2; i < 60; i++) {
            land.makeUp(0, 1, 0);
        }
        return land;
    }

    /**
     * All 60 rumours are of one family, and rumour n has the depth n: as deep as one can go. Towns 0 and 1
     * have a road without any duty. Carrier 0 is in town 0 and has the last rumours in the bag; the others
     * are in town 1.
     */
    static RumourCustoms withDeepest() {
        RumourCustoms land = withTowns(2);
        land.build(0, 1, 1, 0, 0, 0);
        land.addCarrier(0, 1000000);
        inBag(land, 0, 1, 5);
        for (int depth = 1; depth < 60; depth++) {
            if (land.carrier(0, 3) == 6) {
                leaveElsewhere(land, depth - 6, depth - 2);
            }
            land.tell(0, depth - 1);
            land.take(0, depth);
        }
        return land;
    }

    private static void leaveElsewhere(RumourCustoms land, int first, int last) {
        land.go(0, 1, 0);
        land.pass(1);
        for (int i = first; i <= last; i++) {
            land.leave(0, i);
        }
        land.go(0, 0, 0);
        land.pass(1);
    }
}
