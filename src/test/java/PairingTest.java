import java.util.NoSuchElementException;

/** Promises 14 to 17: pairings, and the cover. */
final class PairingTest {
    private static final Class<NoSuchElementException> ELEMENT = NoSuchElementException.class;
    private static final Class<IllegalStateException> STATE = IllegalStateException.class;

    private static final Due due = new Due("PairingTest");

    public static void main(String[] args) {
        order();
        asLongAsEight();
        limitsThatRise();
        fortyAtMost();
        listedAgain();
        coverCosts();
        coverWithFees();
        coverTies();
        noCover();
        coverAgain();
        due.end();
    }

    private static void listed(CrewOffice x, String what, int[][] want) {
        due.equal("pairings(), " + what, x.pairings(), want.length);
        due.equal("look(3), " + what, x.look(3), want.length);
        for (int i = 0; i < want.length && i < x.look(3); i++) {
            for (int k = 0; k < want[i].length; k++) {
                due.equal("pairing(" + i + ", " + k + "), " + what, x.pairing(i, k), want[i][k]);
            }
            int pairing = i;
            due.fails("the flight behind the last of " + i, ELEMENT, () -> x.pairing(pairing, want[pairing].length));
            due.fails("flight -1 of " + i, ELEMENT, () -> x.pairing(pairing, -1));
        }
        for (int bad : new int[] {-1, want.length, 40, Integer.MIN_VALUE, Integer.MAX_VALUE}) {
            due.fails("pairing(" + bad + ", 0), " + what, ELEMENT, () -> x.pairing(bad, 0));
            due.fails("covers(" + bad + "), " + what, ELEMENT, () -> x.covers(bad));
            due.fails("owner(" + bad + "), " + what, ELEMENT, () -> x.owner(bad));
        }
    }

    private static void covered(CrewOffice x, String what, int cost, int... want) {
        due.equal("cover(), " + what, x.cover(), cost);
        due.equal("look(4), " + what, x.look(4), cost < 0 ? -1 : want.length);
        for (int i = 0; i < x.look(3); i++) {
            boolean in = false;
            for (int pairing : want) {
                in |= pairing == i;
            }
            due.equal("covers(" + i + "), " + what, x.covers(i), in);
        }
    }

    private static void order() {
        CrewOffice x = new CrewOffice();
        x.crew(3, 0, 0, 0, 20000);
        x.flight(7, 0, 1, 400, 450, 0);
        x.flight(2, 1, 0, 500, 550, 1);
        x.flight(9, 1, 0, 480, 550, 2);
        x.flight(4, 0, 2, 600, 650, 0);
        x.flight(0, 2, 0, 700, 750, 0);
        x.flight(1, 2, 1, 700, 750, 0);
        listed(x, "in order", new int[][] {{4, 0}, {7, 2}, {7, 2, 4, 0}, {7, 9}, {7, 9, 4, 0}});
        x.crew(0, 2, 0, 0, 0);
        listed(x, "another base, too", new int[][] {{4, 0}, {7, 2}, {7, 2, 4, 0}, {7, 9}, {7, 9, 4, 0}});
        x.crew(0, 1, 0, 0, 0);
        listed(x, "a base in between", new int[][] {
            {2, 4, 1}, {4, 0}, {7, 2}, {7, 2, 4, 0}, {7, 9}, {7, 9, 4, 0}, {9, 4, 1}});
        x.drop(4);
        listed(x, "without a flight", new int[][] {{7, 2}, {7, 9}});
        x.crew(0, 4, 0, 0, 0);
        x.crew(3, 4, 0, 0, 0);
        listed(x, "from a base without flights", new int[][] {});
    }

    /** Nine flights in a row, of which a pairing has at most eight. */
    private static void asLongAsEight() {
        CrewOffice x = new CrewOffice();
        x.crew(0, 0, 0, 7, 0);
        x.rule(5, 8);
        int[] stops = {0, 1, 2, 3, 4, 1, 2, 3, 0, 4};
        for (int k = 0; k + 1 < stops.length; k++) {
            x.flight(k, stops[k], stops[k + 1], 500 + k * 40, 510 + k * 40, 0);
        }
        listed(x, "of eight flights", new int[][] {
            {0, 1, 2, 3, 4, 5, 6, 7}, {0, 1, 2, 7}, {0, 1, 6, 7}, {0, 5, 6, 7}});
        stops[8] = 4;
        stops[9] = 0;
        for (int k = 7; k <= 8; k++) {
            x.flight(k, stops[k], stops[k + 1], 500 + k * 40, 510 + k * 40, 0);
        }
        listed(x, "not of nine flights", new int[][] {
            {0, 1, 2, 3, 8}, {0, 1, 2, 7, 8}, {0, 1, 6, 7, 8}, {0, 5, 6, 7, 8}});
    }

    /** A duty that is too long with two flights need not be so with three. */
    private static void limitsThatRise() {
        CrewOffice x = new CrewOffice();
        x.crew(0, 0, 0, 7, 0);
        x.flight(0, 0, 1, 500, 550, 0);
        x.flight(1, 1, 0, 600, 650, 0);
        x.flight(2, 0, 1, 700, 750, 0);
        x.flight(3, 1, 0, 800, 850, 0);
        x.limit(1, 1, 60);
        x.limit(1, 2, 60);
        x.limit(1, 3, 60);
        listed(x, "of four flights alone", new int[][] {{0, 1, 2, 3}});
    }

    /** Flights out and back, each of the ways back behind each of the ways out. */
    private static CrewOffice star(int out, int back) {
        CrewOffice x = new CrewOffice();
        x.crew(0, 0, 0, 7, 0);
        for (int k = 0; k < out; k++) {
            x.flight(k, 0, 1, 400 + k, 450, 0);
        }
        for (int k = 0; k < back; k++) {
            x.flight(out + k, 1, 0, 500, 550 + k, 0);
        }
        return x;
    }

    private static void fortyAtMost() {
        CrewOffice x = star(6, 6);
        due.equal("36 pairings", x.pairings(), 36);
        due.equal("the last one's first", x.pairing(35, 0), 5);
        due.equal("the last one's second", x.pairing(35, 1), 11);
        CrewOffice forty = fortyPairings();
        due.equal("2 * 4 * 5 pairings", forty.pairings(), 40);
        due.equal("the last one's last", forty.pairing(39, 2), 10);
        due.equal("cover() of 40: five pairings, four fees", forty.cover(), 5 * 330 + 4 * 200);
        forty.flight(11, 1, 0, 480, 500, 0);
        due.equal("41 pairings", forty.pairings(), -1);
        due.equal("look(3) of 41", forty.look(3), -1);
        due.equal("cover() of 41", forty.cover(), -1);
        due.equal("look(4) of 41", forty.look(4), -1);
        due.fails("pairing(0, 0) of 41", ELEMENT, () -> forty.pairing(0, 0));
        due.fails("covers(0) of 41", ELEMENT, () -> forty.covers(0));
        due.fails("award() of 41", STATE, forty::award);
        forty.move(11, -1);
        due.equal("40 pairings again", forty.pairings(), 40);
    }

    /** Two flights from 0 to 1, four from 1 to 2, five from 2 to 0; the first one lands earlier. */
    private static CrewOffice fortyPairings() {
        CrewOffice x = new CrewOffice();
        x.crew(0, 0, 0, 7, 0);
        for (int k = 0; k < 11; k++) {
            int leg = k < 2 ? 0 : k < 6 ? 1 : 2;
            x.flight(k, leg, (leg + 1) % 3, 400 + 90 * leg, 460 + 90 * leg, 0);
        }
        x.flight(0, 0, 1, 400, 450, 0);
        return x;
    }

    private static void listedAgain() {
        CrewOffice x = star(1, 1);
        x.pairings();
        x.cover();
        x.award();
        due.equal("look(5)", x.look(5), 1);
        due.equal("pairings() again", x.pairings(), 1);
        due.equal("look(4), listed again", x.look(4), -1);
        due.equal("look(5), listed again", x.look(5), 0);
        due.equal("covers(0), listed again", x.covers(0), false);
        due.equal("owner(0), listed again", x.owner(0), -1);
        due.fails("award(), listed again", STATE, x::award);
    }

    private static void coverCosts() {
        CrewOffice x = new CrewOffice();
        x.crew(0, 0, 0, 7, 0);
        x.flight(0, 0, 1, 480, 600, 0);
        x.flight(1, 1, 0, 660, 780, 0);
        x.flight(2, 0, 2, 1500, 1600, 0);
        x.flight(3, 2, 0, 1700, 1800, 0);
        x.rule(9, 0);
        listed(x, "two days", new int[][] {{0, 1}, {0, 1, 2, 3}, {2, 3}});
        due.equal("covers(0) before cover()", x.covers(0), false);
        covered(x, "two days apart", 390 + 390, 0, 2);
        x.rule(0, 120);
        x.rule(1, 0);
        due.equal("cover() when they are not listed", x.cover(), -1);
        due.equal("pairings()", x.pairings(), 3);
        covered(x, "REPORT 120, RELEASE 0", 420 + 420, 0, 2);
        x.flight(2, 0, 2, 800, 900, 0);
        x.flight(3, 2, 0, 1000, 1100, 0);
        x.rule(2, 20);
        x.limit(1, 4, 739);
        due.equal("pairings()", x.pairings(), 2);
        covered(x, "too long for one duty", 420 + 420, 0, 1);
        x.limit(1, 4, 740);
        listed(x, "one day", new int[][] {{0, 1}, {0, 1, 2, 3}, {2, 3}});
        covered(x, "all in one", 740, 1);
    }

    /** Three ways back for one way out: the fee is due for each pairing but one that the way out is in. */
    private static void coverWithFees() {
        CrewOffice x = star(1, 3);
        due.equal("pairings()", x.pairings(), 3);
        int minutes = 3 * (90 + 150) + 1 + 2;
        covered(x, "two fees of 200", minutes + 400, 0, 1, 2);
        x.rule(8, 0);
        x.pairings();
        covered(x, "no fees", minutes, 0, 1, 2);
        x.rule(8, 10000);
        x.pairings();
        covered(x, "two fees of 10000", minutes + 20000, 0, 1, 2);
        feeOrMinutes();
    }

    /** Two ways out and one back, two days later one out and two back: each day for itself, or without a fee. */
    private static void feeOrMinutes() {
        CrewOffice x = new CrewOffice();
        x.crew(0, 0, 0, 7, 0);
        x.rule(9, 0);
        x.flight(0, 0, 1, 500, 550, 0);
        x.flight(1, 0, 1, 500, 550, 0);
        x.flight(2, 1, 0, 600, 650, 0);
        x.flight(3, 0, 1, 3500, 3550, 0);
        x.flight(4, 1, 0, 3600, 3650, 0);
        x.flight(5, 1, 0, 3600, 3650, 0);
        listed(x, "two days", new int[][] {
            {0, 2}, {0, 2, 3, 4}, {0, 2, 3, 5}, {0, 4}, {0, 5}, {1, 2}, {1, 2, 3, 4}, {1, 2, 3, 5}, {1, 4}, {1, 5},
            {3, 4}, {3, 5}});
        covered(x, "two fees of 200", 4 * 240 + 400, 0, 5, 10, 11);
        x.rule(8, 10000);
        x.pairings();
        covered(x, "no fee of 10000, the first of four such covers", 240 + 3240 + 240, 0, 8, 11);
    }

    private static void coverTies() {
        CrewOffice x = new CrewOffice();
        x.crew(0, 0, 0, 7, 0);
        for (int k = 0; k < 3; k++) {
            x.flight(k, 0, 1, 400, 450, 0);
            x.flight(3 + k, 1, 0, 500, 550, 0);
        }
        due.equal("pairings()", x.pairings(), 9);
        covered(x, "of equal covers the one with pairing 0, then 4", 3 * 240, 0, 4, 8);
        x.move(3, 5);
        x.pairings();
        covered(x, "a little later", 3 * 240 + 5, 0, 4, 8);
        CrewOffice one = new CrewOffice();
        one.crew(0, 0, 0, 7, 0);
        one.rule(8, 0);
        one.rule(0, 0);
        one.rule(1, 0);
        one.flight(0, 0, 1, 400, 450, 0);
        one.flight(1, 1, 0, 500, 550, 0);
        one.flight(2, 0, 1, 580, 630, 0);
        one.flight(3, 1, 0, 680, 730, 0);
        listed(one, "with a turn of 30", new int[][] {{0, 1}, {0, 1, 2, 3}, {0, 3}, {2, 3}});
        covered(one, "two short ones", 150 + 150, 0, 3);
        one.move(2, -30);
        one.move(3, -30);
        one.rule(2, 0);
        listed(one, "without a turn", new int[][] {{0, 1}, {0, 1, 2, 3}, {0, 3}, {2, 3}});
        covered(one, "two short ones as long as the long one", 150 + 150, 0, 3);
    }

    private static void noCover() {
        CrewOffice x = star(1, 1);
        x.flight(5, 3, 4, 100, 200, 0);
        due.equal("pairings()", x.pairings(), 1);
        covered(x, "a flight in no pairing", -1);
        due.equal("look(3)", x.look(3), 1);
        due.fails("award() without a cover", STATE, x::award);
        due.equal("owner(0) without a cover", x.owner(0), -1);
        CrewOffice empty = new CrewOffice();
        due.equal("cover(), not listed, without a flight", empty.cover(), -1);
        due.equal("pairings() without a flight", empty.pairings(), 0);
        due.equal("cover() without a flight", empty.cover(), 0);
        due.equal("look(4) without a flight", empty.look(4), 0);
    }

    private static void coverAgain() {
        CrewOffice x = star(1, 1);
        x.pairings();
        covered(x, "once", 240, 0);
        due.equal("award()", x.award(), true);
        due.equal("owner(0)", x.owner(0), 0);
        covered(x, "twice", 240, 0);
        due.equal("owner(0), no awards are left", x.owner(0), -1);
        due.equal("look(5), no awards are left", x.look(5), 0);
    }
}
