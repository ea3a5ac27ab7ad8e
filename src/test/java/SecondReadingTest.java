import java.util.Arrays;

/** Runs of 512 calls, right and wrong ones, of the class and of the second reading: they agree in all answers. */
final class SecondReadingTest {
    private static final int CALLS = 512;
    private static final int METHODS = 21;
    private static final int[] FAR = {Integer.MIN_VALUE, -1, 5, 6, 7, 8, 10, 60, 101, Integer.MAX_VALUE};

    /** How often each method is called, in the order of the face; each run multiplies it by a liking of its own. */
    private static final int[] OFTEN = {2, 8, 3, 6, 3, 3, 3, 2, 16, 5, 10, 14, 14, 3, 6, 8, 3, 5, 3, 2, 2};

    private final RumourCustoms land = new RumourCustoms();
    private final SecondReading reading = new SecondReading();
    private final Dice dice;
    private final int[] likings = new int[METHODS];
    private final int wrongOnes;

    private SecondReadingTest(Dice dice) {
        this.dice = dice;
        wrongOnes = 5 + dice.below(200);
        for (int i = 0; i < METHODS; i++) {
            likings[i] = OFTEN[i] * dice.below(8);
        }
    }

    static void promises1To22AreReadTheSame() {
        agreeIn(300, 11);
    }

    private static void agreeIn(int runs, long seed) {
        Dice dice = new Dice(seed);
        for (int run = 0; run < runs; run++) {
            new SecondReadingTest(dice).agree();
        }
    }

    private void agree() {
        for (int i = 0; i < CALLS; i++) {
            int[] call = i % 8 == 7 ? new int[] {20, 0, 0, 0, 0, 0, 0} : wildCall(i);
            String got = answerOf(() -> ask(land, call));
            String due = answerOf(() -> ask(reading, call));
            Check.holds(got.equals(due), "call " + i + ", " + Arrays.toString(call) + ": " + got + ", due is " + due);
        }
    }

    private interface Question {
        long ask();
    }

    private static String answerOf(Question question) {
        try {
            return Long.toString(question.ask());
        } catch (RuntimeException e) {
            return e.getClass().getName();
        }
    }

    /** The number of a method in the face, and as many numbers as any of them takes. */
    private int[] wildCall(int calls) {
        int method = calls < 30 && dice.below(2) == 0 ? new int[] {0, 1, 3, 7}[dice.below(4)] : liked();
        int towns = reading.count(1);
        int carrier = near(reading.count(5));
        int rumour = dice.below(4) == 0 ? near(reading.count(3)) : rumourAt(carrier, method == 8);
        switch (method) {
            case 1:
                return call(method, near(towns), near(towns), 1 + near(9), near(21), near(31), near(10));
            case 2:
                return call(method, near(towns), near(towns), near(7), 0, 0, 0);
            case 3:
                return call(method, near(towns), 1 + near(30), near(6), 0, 0, 0);
            case 4:
                return call(method, rumour, near(7), 0, 0, 0, 0);
            case 5:
                return call(method, near(towns), near(4), 0, 0, 0, 0);
            case 6:
                return call(method, near(towns), rumour, 0, 0, 0, 0);
            case 7:
                return call(method, near(towns), near(dice.below(2) == 0 ? 1000 : 1000001), 0, 0, 0, 0);
            case 12:
            case 14:
                return call(method, carrier, near(towns), near(6), 0, 0, 0);
            case 13:
                return call(method, carrier, near(6), 0, 0, 0, 0);
            case 15:
                return call(method, 1 + near(dice.below(3) == 0 ? 100 : 5), 0, 0, 0, 0, 0);
            case 16:
                return call(method, near(11), 0, 0, 0, 0, 0);
            case 17:
                return call(method, rumour, near(towns), near(towns), near(2), 0, 0);
            case 18:
                return call(method, rumour, near(3), 0, 0, 0, 0);
            default:
                return call(method, carrier, rumour, dice.below(2), 0, 0, 0);
        }
    }

    private static int[] call(int... numbers) {
        return numbers;
    }

    private int liked() {
        int all = 0;
        for (int each : likings) {
            all += each;
        }
        int left = dice.below(all);
        int method = 0;
        while (left >= likings[method]) {
            left -= likings[method];
            method++;
        }
        return method;
    }

    /** A number below the bound for the most part, now and then another one. */
    private int near(int bound) {
        if (dice.below(wrongOnes) == 0) {
            return dice.below(2) == 0 ? bound : FAR[dice.below(FAR.length)];
        }
        return dice.below(Math.max(1, bound));
    }

    /** A rumour in the town of the carrier, or in the bag; 0 if there is none. */
    private int rumourAt(int carrier, boolean isInTown) {
        if (carrier < 0 || carrier >= reading.count(5)) {
            return 0;
        }
        int place = isInTown ? reading.carrier(carrier, 0) : carrier;
        int found = 0;
        int rumour = 0;
        for (int i = 0; i < reading.count(3); i++) {
            if (reading.rumour(i, isInTown ? 4 : 5) == place) {
                found++;
                rumour = dice.below(found) == 0 ? i : rumour;
            }
        }
        return rumour;
    }

    private static long ask(RumourCustoms land, int[] x) {
        switch (x[0]) {
            case 0:
                return land.addTown();
            case 1:
                return land.build(x[1], x[2], x[3], x[4], x[5], x[6]);
            case 2:
                return land.road(x[1], x[2], x[3]);
            case 3:
                return land.makeUp(x[1], x[2], x[3]);
            case 4:
                return land.rumour(x[1], x[2]);
            case 5:
                return land.town(x[1], x[2]);
            case 6:
                return land.heard(x[1], x[2]);
            case 7:
                return land.addCarrier(x[1], x[2]);
            case 8:
                return land.take(x[1], x[2]);
            case 9:
                return land.leave(x[1], x[2]);
            case 10:
                return land.hide(x[1], x[2], x[3] == 1);
            case 11:
                return land.tell(x[1], x[2]);
            case 12:
                return land.go(x[1], x[2], x[3]);
            case 13:
                return land.carrier(x[1], x[2]);
            case 14:
                return land.wouldPay(x[1], x[2], x[3]);
            case 15:
                return land.pass(x[1]);
            case 16:
                return land.count(x[1]);
            case 17:
                return land.cheapest(x[1], x[2], x[3], x[4]);
            case 18:
                return land.spread(x[1], x[2]);
            case 19:
                return Double.doubleToRawLongBits(land.hearsay());
            default:
                return land.digest();
        }
    }

    private static long ask(SecondReading reading, int[] x) {
        switch (x[0]) {
            case 0:
                return reading.addTown();
            case 1:
                return reading.build(x[1], x[2], x[3], x[4], x[5], x[6]);
            case 2:
                return reading.road(x[1], x[2], x[3]);
            case 3:
                return reading.makeUp(x[1], x[2], x[3]);
            case 4:
                return reading.rumour(x[1], x[2]);
            case 5:
                return reading.town(x[1], x[2]);
            case 6:
                return reading.heard(x[1], x[2]);
            case 7:
                return reading.addCarrier(x[1], x[2]);
            case 8:
                return reading.take(x[1], x[2]);
            case 9:
                return reading.leave(x[1], x[2]);
            case 10:
                return reading.hide(x[1], x[2], x[3] == 1);
            case 11:
                return reading.tell(x[1], x[2]);
            case 12:
                return reading.go(x[1], x[2], x[3]);
            case 13:
                return reading.carrier(x[1], x[2]);
            case 14:
                return reading.wouldPay(x[1], x[2], x[3]);
            case 15:
                return reading.pass(x[1]);
            case 16:
                return reading.count(x[1]);
            case 17:
                return reading.cheapest(x[1], x[2], x[3], x[4]);
            case 18:
                return reading.spread(x[1], x[2]);
            case 19:
                return Double.doubleToRawLongBits(reading.hearsay());
            default:
                return reading.digest();
        }
    }
}
