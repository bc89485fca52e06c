/** Promises 44 to 49: weights and rounds. */
public final class BalanceTest {
    private static final Due due = new Due("BalanceTest");

    public static void main(String[] args) {
        weights();
        theFirstRowIsTakenOut();
        signs();
        greatNumbers();
        rounds();
        greatRounds();
        keeping();
        turning();
        due.end();
    }

    private static NetHouse net(int places, int steps) {
        NetHouse x = new NetHouse();
        for (int p = 0; p < places; p++) {
            x.place(0);
        }
        for (int s = 0; s < steps; s++) {
            x.step(0);
        }
        return x;
    }

    private static void weights() {
        due.part("promises 44 and 45");
        NetHouse x = net(3, 1);
        x.arc(0, 0, 2, 0);
        x.arc(0, 1, 0, 3);
        due.is("weight(0, 0) before they are found", x.weight(0, 0), Due.BAD);
        due.is("weights()", x.weights(), 2);
        weightIs(x, 0, 3, 2, 0);
        weightIs(x, 1, 0, 0, 1);
        due.is("weight(2, 0)", x.weight(2, 0), Due.BAD);
        due.is("weight(-1, 0)", x.weight(-1, 0), Due.BAD);
        due.is("weight(0, 3)", x.weight(0, 3), Due.BAD);
        due.is("weight(0, -1)", x.weight(0, -1), Due.BAD);
        x.mark(0, 3);
        due.is("they stay when marks are told", x.weight(0, 0), 3);
        x.arc(0, 2, 1, 1);
        due.is("they are gone when the net changes", x.weight(0, 0), Due.BAD);
        due.is("weights(), what is put back is no change", x.weights(), 2);
        NetHouse y = net(2, 1);
        y.arc(0, 0, 0, 1);
        y.arc(0, 1, 0, 1);
        due.is("weights() with a place too many", y.weights(), 1);
        weightIs(y, 0, 1, -1);
        NetHouse z = new NetHouse();
        z.place(1);
        z.place(0);
        z.step(3);
        z.arc(0, 0, 1, 0);
        z.arc(0, 1, 0, 1);
        due.is("weights() of a coloured place too", z.weights(), 1);
        weightIs(z, 0, 1, 1);
    }

    private static void weightIs(NetHouse x, int k, int... numbers) {
        for (int p = 0; p < numbers.length; p++) {
            due.is("weight(" + k + ", " + p + ")", x.weight(k, p), numbers[p]);
        }
    }

    /** The rows left over depend on which one is taken out first, and so do the weights. */
    private static void theFirstRowIsTakenOut() {
        due.part("promise 44, the order of rows");
        NetHouse x = net(4, 1);
        x.arc(0, 1, 1, 0);
        x.arc(0, 2, 0, 2);
        x.arc(0, 3, 0, 4);
        // left: 0, -1, 2, 4; row 1 is taken out, a = -1
        due.is("weights()", x.weights(), 3);
        weightIs(x, 0, 1, 0, 0, 0);
        weightIs(x, 1, 0, 2, 1, 0);
        weightIs(x, 2, 0, 4, 0, 1);
        x.arc(0, 1, 0, 6);
        // left: 0, 6, 2, 4; of row 2 comes 6 (0 0 1 0) - 2 (0 1 0 0), which 2 divides
        due.is("weights()", x.weights(), 3);
        weightIs(x, 1, 0, 1, -3, 0);
        weightIs(x, 2, 0, 2, 0, -3);
    }

    private static void signs() {
        due.part("promise 44, signs");
        NetHouse x = net(2, 1);
        x.arc(0, 0, 1, 0);
        x.arc(0, 1, 1, 0);
        // a = -1, b = -1: -1 (0 1) + 1 (1 0)
        x.weights();
        weightIs(x, 0, 1, -1);
        x.arc(0, 0, 0, 1);
        x.arc(0, 1, 0, 1);
        // a = 1, b = 1: 1 (0 1) - 1 (1 0), signs turned
        x.weights();
        weightIs(x, 0, 1, -1);
    }

    /** Step s takes 9 from place s and puts 1 into the next: a chain of n places weighs 9 to the n - 1 at its end. */
    private static NetHouse chain(int places) {
        NetHouse x = net(places, places - 1);
        for (int s = 0; s < places - 1; s++) {
            x.arc(s, s, 9, 0);
            x.arc(s, s + 1, 0, 1);
        }
        return x;
    }

    private static void greatNumbers() {
        due.part("promise 44, great numbers");
        NetHouse x = chain(10);
        due.is("weights() of 10", x.weights(), 1);
        due.is("weight(0, 0)", x.weight(0, 0), 1);
        due.is("weight(0, 9)", x.weight(0, 9), 387420489);
        due.is("rounds() of 10", x.rounds(), 0);
        NetHouse y = chain(11);
        due.is("weights() of 11", y.weights(), Due.SPENT);
        due.is("there are none then", y.count(8), 0);
        due.is("weight(0, 0)", y.weight(0, 0), Due.BAD);
        theLastRowAlone();
        justNotTooGreat();
    }

    /** Ten places weigh up to 9 to the 9; an eleventh makes numbers twice that, or five times. */
    private static void theLastRowAlone() {
        for (int puts = 1; puts <= 5; puts += 4) {
            NetHouse x = chain(10);
            x.place(0);
            x.step(0);
            x.arc(9, 9, 2, 0);
            x.arc(9, 10, 0, puts);
            due.is("weights(), 2 for " + puts, x.weights(), puts == 1 ? 1 : Due.SPENT);
            due.is("weight(0, 10)", x.weight(0, 10), puts == 1 ? 774840978 : Due.BAD);
        }
    }

    /** 8 times 8 times 8 times 5 to the 9 is the greatest number that is not beyond. */
    private static void justNotTooGreat() {
        for (int last = 5; last <= 6; last++) {
            NetHouse x = net(13, 12);
            for (int s = 0; s < 12; s++) {
                x.arc(s, s, s < 3 ? 8 : s < 11 ? 5 : last, 0);
                x.arc(s, s + 1, 0, 1);
            }
            due.is("weights() with " + last, x.weights(), last == 5 ? 1 : Due.SPENT);
            due.is("weight(0, 12)", x.weight(0, 12), last == 5 ? 1000000000 : Due.BAD);
        }
    }

    private static void rounds() {
        due.part("promises 46 and 47");
        NetHouse x = net(2, 3);
        x.arc(0, 0, 2, 0);
        x.arc(0, 1, 0, 1);
        x.arc(1, 1, 3, 0);
        x.arc(1, 0, 0, 6);
        due.is("round(0, 0) before they are found", x.round(0, 0), Due.BAD);
        due.is("rounds()", x.rounds(), 2);
        due.is("round(0, 0)", x.round(0, 0), 3);
        due.is("round(0, 1)", x.round(0, 1), 1);
        due.is("round(0, 2)", x.round(0, 2), 0);
        due.is("round(1, 2)", x.round(1, 2), 1);
        due.is("round(2, 0)", x.round(2, 0), Due.BAD);
        due.is("round(-1, 0)", x.round(-1, 0), Due.BAD);
        due.is("round(0, 3)", x.round(0, 3), Due.BAD);
        due.is("round(0, -1)", x.round(0, -1), Due.BAD);
        due.is("count(9)", x.count(9), 2);
        due.is("count(8)", x.count(8), 0);
        x.step(0);
        due.is("they are gone when the net changes", x.round(0, 0), Due.BAD);
    }

    private static void greatRounds() {
        due.part("promise 46, great numbers");
        for (int steps = 10; steps <= 11; steps++) {
            NetHouse x = net(steps - 1, steps);
            for (int p = 0; p < steps - 1; p++) {
                x.arc(p, p, 9, 0);
                x.arc(p + 1, p, 0, 1);
            }
            due.is("rounds() of " + steps, x.rounds(), steps == 10 ? 1 : Due.SPENT);
            due.is("count(9)", x.count(9), steps == 10 ? 1 : 0);
            due.is("round(0, 9)", x.round(0, 9), steps == 10 ? 387420489 : Due.BAD);
        }
    }

    private static void keeping() {
        due.part("promise 48");
        NetHouse x = net(2, 2);
        x.arc(0, 0, 2, 0);
        x.arc(0, 1, 0, 3);
        due.is("keeps() of no row", x.keeps(), 1);
        x.row(2);
        x.set(0, 3);
        x.set(1, 2);
        due.is("keeps() of 3 2", x.keeps(), 1);
        x.set(0, -3);
        x.set(1, -2);
        due.is("keeps() of -3 -2", x.keeps(), 1);
        x.set(1, 2);
        due.is("keeps() of -3 2", x.keeps(), 0);
        x.row(1);
        x.set(0, 3);
        due.is("keeps(), a row too short", x.keeps(), 0);
        x.row(3);
        x.set(2, 5);
        due.is("keeps(), a row too long", x.keeps(), 1);
        x.set(0, 999999999);
        x.set(1, 666666666);
        due.is("keeps() of great numbers", x.keeps(), 1);
        x.set(0, 1000000000);
        due.is("keeps() of great numbers, nearly", x.keeps(), 0);
        x.set(0, 999999999);
        x.arc(1, 0, 0, 1);
        due.is("keeps(), another step changes it", x.keeps(), 0);
        NetHouse y = net(16, 1);
        y.row(16);
        for (int p = 0; p < 16; p++) {
            y.arc(0, p, 0, 8);
            y.set(p, 134217728 * (p % 2 == 0 ? 4 : -4) + (p == 0 ? 1 : 0));
        }
        due.is("keeps(), a sum that is not 0", y.keeps(), 0);
    }

    private static void turning() {
        due.part("promise 49");
        NetHouse x = net(2, 2);
        x.arc(0, 0, 2, 0);
        x.arc(0, 1, 0, 1);
        x.arc(1, 1, 3, 0);
        x.arc(1, 0, 0, 6);
        due.is("turns() of no row", x.turns(), 1);
        x.row(2);
        x.set(0, 3);
        x.set(1, 1);
        due.is("turns() of 3 1", x.turns(), 1);
        x.set(0, 6);
        due.is("turns() of 6 1", x.turns(), 0);
        x.set(0, -3);
        x.set(1, -1);
        due.is("turns() of -3 -1", x.turns(), 0);
        x.row(3);
        x.set(2, -4);
        due.is("turns(), below 0 for no step", x.turns(), 1);
        x.step(0);
        due.is("turns(), below 0 for a step that changes nothing", x.turns(), 0);
        x.row(1);
        x.set(0, 3);
        due.is("turns(), a row too short", x.turns(), 0);
        NetHouse y = net(1, 1);
        y.arc(0, 0, 0, 8);
        y.row(1);
        y.set(0, 536870912);
        due.is("turns(), 2 to the 32 is not 0", y.turns(), 0);
    }
}
