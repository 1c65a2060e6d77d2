/** Offices in states with which many tests begin. */
final class Scene {
    static final int MIN = Integer.MIN_VALUE;
    static final int MAX = Integer.MAX_VALUE;

    private Scene() {
    }

    /** Numbers right outside of bounds, and as far outside as can be. */
    static int[] outside(int least, int most) {
        return new int[] {least - 1, most + 1, MIN, MAX};
    }

    static void chain(CrewOffice x, int... flights) {
        x.clear();
        for (int flight : flights) {
            x.chain(flight);
        }
    }

    /** Flights 0 -> 1 and 1 -> 0 with these times, in the chain, and crew 0 at station 0, which may fly them. */
    static CrewOffice twoFlights(int departs, int arrives, int departsBack, int arrivesBack) {
        CrewOffice x = new CrewOffice();
        x.crew(0, 0, 5, 7, 0);
        x.flight(0, 0, 1, departs, arrives, 0);
        x.flight(1, 1, 0, departsBack, arrivesBack, 0);
        chain(x, 0, 1);
        return x;
    }

    /** The chain of two flights, without a rule for rests but that of the duty's length. */
    static CrewOffice twoFlightsAnyRest(int departs, int arrives, int departsBack, int arrivesBack) {
        CrewOffice x = twoFlights(departs, arrives, departsBack, arrivesBack);
        x.rule(4, 0);
        x.rule(9, 0);
        return x;
    }

    /** A chain of flights to and fro between 0 and 1, from 480 on, and crew 0 at station 0. */
    static CrewOffice shuttle(int flights, int minutes, int turn) {
        CrewOffice x = new CrewOffice();
        x.crew(0, 0, 5, 7, 0);
        for (int k = 0; k < flights; k++) {
            int departs = 480 + k * (minutes + turn);
            x.flight(k, k % 2, 1 - k % 2, departs, departs + minutes, 0);
            x.chain(k);
        }
        return x;
    }

    /** A pairing a day from station 0: flights 2 * d and 2 * d + 1, from 480 to 600 and 660 to 780 of day d. */
    static CrewOffice days(int days) {
        CrewOffice x = new CrewOffice();
        // pairings of one duty alone
        x.rule(6, 1);
        for (int day = 0; day < days; day++) {
            x.flight(2 * day, 0, 1, day * 1440 + 480, day * 1440 + 600, 0);
            x.flight(2 * day + 1, 1, 0, day * 1440 + 660, day * 1440 + 780, 0);
        }
        return x;
    }

    /** Flights out and back, each of the ways back behind each of the ways out. */
    static CrewOffice star(int out, int back) {
        CrewOffice x = new CrewOffice();
        x.crew(0, 0, 0, 7, 0);
        for (int k = 0; k < out; k++) {
            x.flight(k, 0, 1, 400 + k, 450, 0);
        }
        for (int k = 0; k < back; k++) {
            x.flight(out + k, 1, 0, 500, 550 + k, 0);
        }
        return x;
    }

    /** Crew 0 was awarded the only pairing. */
    static CrewOffice awarded() {
        CrewOffice x = twoFlights(100, 200, 300, 400);
        x.pairings();
        x.cover();
        x.award();
        return x;
    }

    /** Every rule value, a time off, bids, a fee and two crews count here: two ways back from one way out, and a night away. */
    static CrewOffice busy() {
        CrewOffice x = new CrewOffice();
        x.zone(0, 60, 10000, 0);
        x.flight(0, 0, 1, 480, 600, 0);
        x.flight(1, 1, 0, 660, 780, 1);
        x.flight(2, 0, 1, 2200, 2320, 0);
        x.flight(3, 1, 0, 3310, 3430, 2);
        x.flight(4, 1, 0, 670, 790, 0);
        x.crew(0, 0, 5, 7, 100);
        x.crew(1, 0, 7, 7, 200);
        x.off(0, 9000, 9001);
        x.bid(0, 0, 1, 30);
        x.bid(0, 2, 1, 5);
        for (int k = 0; k < 6; k++) {
            x.bid(1, k % 3, k, 10 + k);
        }
        chain(x, 2, 3);
        x.pairings();
        x.cover();
        x.award();
        return x;
    }
}
