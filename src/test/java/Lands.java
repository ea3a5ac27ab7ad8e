/** Lands that several tests begin with. */
final class Lands {
    private Lands() {
    }

    static RumourCustoms withTowns(int towns) {
        RumourCustoms land = new RumourCustoms();
        for (int i = 0; i < towns; i++) {
            land.addTown();
        }
        return land;
    }

    /** Towns 0 and 1 with a road of 3 hours, tariff 10, surcharge 7 and this strictness; carrier 0 is in 0. */
    static RumourCustoms withRoad(int strictness, int purse) {
        RumourCustoms land = withTowns(2);
        land.build(0, 1, 3, 10, 7, strictness);
        land.addCarrier(0, purse);
        return land;
    }

    /** Makes up a rumour where the carrier is, and takes it. */
    static int inBag(RumourCustoms land, int carrier, int length, int proofs) {
        int rumour = land.makeUp(land.carrier(carrier, 0), length, proofs);
        land.take(carrier, rumour);
        return rumour;
    }

    /** Makes up a rumour where the carrier is, takes and hides it. */
    static int hidden(RumourCustoms land, int carrier, int length, int proofs) {
        int rumour = inBag(land, carrier, length, proofs);
        land.hide(carrier, rumour, true);
        return rumour;
    }

    /**
     * Adds 8 carriers in the town 0 and makes up rumour 0, which they tell on: rumour n has the depth n,
     * and carrier n / 6 has it in the bag. The land is to be without carriers and rumours before.
     */
    static void tellOn(RumourCustoms land, int depth) {
        for (int i = 0; i < 8; i++) {
            land.addCarrier(0, 1000000);
        }
        inBag(land, 0, 8, 3);
        for (int i = 1; i <= depth; i++) {
            land.tell((i - 1) / 6, i - 1);
            land.take(i / 6, i);
        }
    }
}
