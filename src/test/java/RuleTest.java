/** Promises 6 and 7: rule values and limits, as they are at first, at both bounds, and outside of them. */
final class RuleTest {
    private static final int REPORT = 0;
    private static final int RELEASE = 1;
    private static final int TURN = 2;
    private static final int GAP = 3;
    private static final int REST = 4;
    private static final int LEGS = 5;
    private static final int DUTIES = 6;
    private static final int AWAY = 7;
    private static final int FEE = 8;
    private static final int NIGHTS = 9;
    private static final int FLYING = 10;

    private static final Due due = new Due("RuleTest");

    public static void main(String[] args) {
        due.runAll(RuleTest.class);
    }

    private static void refused(int n, int least, int most) {
        CrewOffice x = new CrewOffice();
        for (int value : Scene.outside(least, most)) {
            due.fails("rule(" + n + ", " + value + ")", Due.ARGUMENT, () -> x.rule(n, value));
        }
    }

    /** "Throws .. when there is none such" */
    private static void promise06RefusesARule() {
        CrewOffice x = new CrewOffice();
        for (int n : Scene.outside(0, 10)) {
            for (int value : new int[] {0, 1, 120}) {
                due.fails("rule(" + n + ", " + value + ")", Due.ARGUMENT, () -> x.rule(n, value));
            }
        }
    }

    /** "0 REPORT 0, 120, 60" */
    private static void promise06Report() {
        CrewOffice x = Scene.twoFlights(500, 600, 700, 800);
        due.equal("span(0) at first", x.span(0), 440);
        x.rule(REPORT, 0);
        due.equal("span(0), REPORT 0", x.span(0), 500);
        x.rule(REPORT, 120);
        due.equal("span(0), REPORT 120", x.span(0), 380);
        due.equal("span(1), REPORT 120", x.span(1), 830);
        refused(REPORT, 0, 120);
    }

    /** "1 RELEASE 0, 120, 30" */
    private static void promise06Release() {
        CrewOffice x = Scene.twoFlights(500, 600, 700, 800);
        due.equal("span(1) at first", x.span(1), 830);
        x.rule(RELEASE, 0);
        due.equal("span(1), RELEASE 0", x.span(1), 800);
        x.rule(RELEASE, 120);
        due.equal("span(1), RELEASE 120", x.span(1), 920);
        due.equal("span(0), RELEASE 120", x.span(0), 440);
        refused(RELEASE, 0, 120);
    }

    /** The chain with so many minutes on the ground breaks rule 2, and with one more it does not. */
    private static void turns(CrewOffice x, int minutes) {
        x.flight(1, 1, 0, 600 + minutes, 800, 0);
        due.equal("check(0), a turn of " + minutes, x.check(0), 2);
        x.flight(1, 1, 0, 601 + minutes, 800, 0);
        due.equal("check(0), a turn of " + (minutes + 1), x.check(0), 0);
    }

    /** "2 TURN 0, 180, 30" */
    private static void promise06Turn() {
        CrewOffice x = Scene.twoFlights(500, 600, 700, 800);
        turns(x, 29);
        x.rule(TURN, 0);
        turns(x, -1);
        x.rule(TURN, 180);
        turns(x, 179);
        refused(TURN, 0, 180);
    }

    /** So many minutes between two flights are in one duty, and with one more there are two. */
    private static void gaps(CrewOffice x, int minutes) {
        x.flight(1, 1, 0, 600 + minutes, 650 + minutes, 0);
        due.equal("span(2), a gap of " + minutes, x.span(2), 1);
        x.move(1, 1);
        due.equal("span(2), a gap of " + (minutes + 1), x.span(2), 2);
    }

    /** "3 GAP 120, 900, 300" */
    private static void promise06Gap() {
        CrewOffice x = Scene.twoFlights(500, 600, 700, 800);
        gaps(x, 299);
        x.rule(GAP, 120);
        gaps(x, 119);
        x.rule(GAP, 900);
        gaps(x, 899);
        refused(GAP, 120, 900);
    }

    /** A rest of so many minutes breaks rule 5, and one of a minute more does not. */
    private static void rests(CrewOffice x, int minutes) {
        x.flight(1, 1, 0, 690 + minutes, 790 + minutes, 0);
        due.equal("check(0), a rest of " + minutes, x.check(0), 5);
        x.move(1, 1);
        due.equal("check(0), a rest of " + (minutes + 1), x.check(0), 0);
    }

    /** "4 REST 0, 900, 600" */
    private static void promise06Rest() {
        CrewOffice x = Scene.twoFlights(500, 600, 700, 800);
        x.rule(NIGHTS, 0);
        rests(x, 599);
        x.rule(REST, 900);
        rests(x, 899);
        x.rule(REST, 0);
        // the first duty has 190 minutes
        x.rule(GAP, 120);
        rests(x, 189);
        refused(REST, 0, 900);
    }

    private static void legs(int flights, int value, int want) {
        CrewOffice x = Scene.shuttle(flights, 20, 30);
        if (value > 0) {
            x.rule(LEGS, value);
        }
        due.equal("check(0), " + flights + " flights by LEGS " + value, x.check(0), want);
    }

    /** "5 LEGS 1, 8, 4"; 0 stands for the value at first, and an odd number of flights does not come home */
    private static void promise06Legs() {
        legs(4, 0, 0);
        legs(5, 0, 3);
        legs(6, 0, 3);
        legs(1, 1, 8);
        legs(2, 1, 3);
        legs(8, 8, 0);
        legs(8, 7, 3);
        refused(LEGS, 1, 8);
    }

    /** A chain of a flight a day, and a duty for each. */
    private static CrewOffice daily(int flights) {
        CrewOffice x = Scene.shuttle(flights, 100, 1340);
        x.rule(AWAY, 20160);
        due.equal("duties", x.span(2), flights);
        return x;
    }

    /** "6 DUTIES 1, 8, 3" */
    private static void promise06Duties() {
        due.equal("check(0), 3 duties at first", daily(3).check(0), 8);
        CrewOffice four = daily(4);
        due.equal("check(0), 4 duties at first", four.check(0), 7);
        four.rule(DUTIES, 4);
        due.equal("check(0), 4 duties by DUTIES 4", four.check(0), 0);
        CrewOffice eight = daily(8);
        eight.rule(DUTIES, 7);
        due.equal("check(0), 8 duties by DUTIES 7", eight.check(0), 7);
        eight.rule(DUTIES, 8);
        due.equal("check(0), 8 duties by DUTIES 8", eight.check(0), 0);
        eight.rule(DUTIES, 1);
        Scene.chain(eight, 0, 1);
        due.equal("check(0), 2 duties by DUTIES 1", eight.check(0), 7);
        Scene.chain(eight, 0);
        due.equal("check(0), 1 duty by DUTIES 1", eight.check(0), 8);
        refused(DUTIES, 1, 8);
    }

    /** "7 AWAY 60, 20160, 4320" */
    private static void promise06Away() {
        CrewOffice x = Scene.twoFlights(100, 200, 4000, 4330);
        due.equal("check(0), away 4320", x.check(0), 0);
        x.flight(1, 1, 0, 4000, 4331, 0);
        due.equal("check(0), away 4321", x.check(0), 9);
        x.rule(AWAY, 4321);
        due.equal("check(0), away 4321 by AWAY 4321", x.check(0), 0);
        refused(AWAY, 60, 20160);
    }

    /** "7 AWAY 60": the least */
    private static void promise06AwayAtLeast() {
        CrewOffice x = Scene.twoFlights(500, 510, 540, 560);
        x.rule(REPORT, 0);
        x.rule(RELEASE, 0);
        x.rule(AWAY, 60);
        due.equal("check(0), away 60", x.check(0), 0);
        x.flight(1, 1, 0, 540, 561, 0);
        due.equal("check(0), away 61", x.check(0), 9);
    }

    /** "7 AWAY .. 20160": the most */
    private static void promise06AwayAtMost() {
        CrewOffice x = Scene.twoFlights(0, 100, 20000, 20160);
        x.rule(AWAY, 20160);
        x.rule(REPORT, 0);
        x.rule(RELEASE, 0);
        due.equal("check(0), away 20160", x.check(0), 0);
        x.rule(REPORT, 1);
        due.equal("check(0), away 20161", x.check(0), 9);
    }

    /** "8 FEE 0, 10000, 200": two ways back from one way out, which is in two pairings of the cover */
    private static void promise06Fee() {
        CrewOffice x = Scene.star(1, 2);
        x.pairings();
        due.equal("cover() at first", x.cover(), 240 + 241 + 200);
        for (int fee : new int[] {0, 1, 10000}) {
            x.rule(FEE, fee);
            x.pairings();
            due.equal("cover(), FEE " + fee, x.cover(), 240 + 241 + fee);
        }
        refused(FEE, 0, 10000);
    }

    /** "9 NIGHTS 0, 1, 1" */
    private static void promise06Nights() {
        CrewOffice x = Scene.twoFlights(100, 200, 900, 1000);
        due.equal("check(0) at first", x.check(0), 6);
        x.rule(NIGHTS, 0);
        due.equal("check(0), NIGHTS 0", x.check(0), 0);
        x.rule(NIGHTS, 1);
        due.equal("check(0), NIGHTS 1", x.check(0), 6);
        refused(NIGHTS, 0, 1);
    }

    /** "10 FLYING 0, 20000, 6000" */
    private static void promise06Flying() {
        CrewOffice x = Scene.twoFlights(100, 200, 300, 400);
        x.crew(0, 0, 5, 7, 5800);
        due.equal("check(0), 6000 at first", x.check(0), 0);
        x.crew(0, 0, 5, 7, 5801);
        due.equal("check(0), 6001 at first", x.check(0), 12);
        x.rule(FLYING, 20000);
        x.crew(0, 0, 5, 7, 19800);
        due.equal("check(0), 20000 by FLYING 20000", x.check(0), 0);
        x.crew(0, 0, 5, 7, 19801);
        due.equal("check(0), 20001 by FLYING 20000", x.check(0), 12);
        x.rule(FLYING, 0);
        x.crew(0, 0, 5, 7, 0);
        due.equal("check(0), FLYING 0", x.check(0), 12);
        refused(FLYING, 0, 20000);
    }

    /** A duty of two to eight flights that begins in a band and has a length. */
    private static CrewOffice duty(int band, int flights, int length) {
        CrewOffice x = new CrewOffice();
        x.crew(0, 0, 5, 7, 0);
        x.rule(REPORT, 0);
        x.rule(RELEASE, 0);
        x.rule(LEGS, 8);
        x.rule(TURN, 0);
        x.rule(GAP, 900);
        for (int k = 0; k < flights; k++) {
            int departs = 1440 + band * 360 + k * 2;
            x.flight(k, k % 2, 1 - k % 2, departs, departs + 1, 0);
            x.chain(k);
        }
        x.move(flights - 1, length - 2 * flights + 1);
        due.equal("the length of " + flights + " flights in band " + band, x.span(4), length);
        return x;
    }

    /** What is due when rule 4 holds: an odd number of flights does not come home. */
    private static int otherwise(int flights) {
        return flights % 2 == 1 ? 8 : 0;
    }

    /** "LIMITS of a duty: for each band 0 .. 3 and 1 .. 4 legs, .. 720 at first", and "more than 4 count as 4" */
    private static void promise07IsAtFirst720() {
        for (int band = 0; band < 4; band++) {
            for (int flights = 2; flights <= 8; flights++) {
                String what = flights + " flights in band " + band;
                due.equal("check(0), 720, " + what, duty(band, flights, 720).check(0), otherwise(flights));
                due.equal("check(0), 721, " + what, duty(band, flights, 721).check(0), 4);
            }
            CrewOffice one = Scene.twoFlights(1500 + 360 * band, 2130 + 360 * band, 4000, 4100);
            Scene.chain(one, 0);
            due.equal("check(0), 720, a flight in band " + band, one.check(0), 8);
            one.flight(0, 0, 1, 1500 + 360 * band, 2131 + 360 * band, 0);
            due.equal("check(0), 721, a flight in band " + band, one.check(0), 4);
        }
    }

    /** Each limit is one of its own: that of the duty's band and flights alone holds. */
    private static void promise07HoldsForItsBandAndLegs() {
        for (int k = 0; k < 32; k++) {
            int band = k / 8;
            int flights = k % 8 + 1;
            int legs = Math.min(flights, 4);
            CrewOffice x = flights == 1 ? oneFlight(band) : duty(band, flights, 100);
            for (int other = 0; other < 16; other++) {
                x.limit(other / 4, other % 4 + 1, 60);
            }
            x.limit(band, legs, 100);
            due.equal("check(0), " + flights + " in band " + band + ", only its limit holds", x.check(0),
                    otherwise(flights));
            for (int other = 0; other < 16; other++) {
                x.limit(other / 4, other % 4 + 1, 1440);
            }
            x.limit(band, legs, 99);
            due.equal("check(0), " + flights + " in band " + band + ", only its limit is less", x.check(0), 4);
        }
    }

    private static CrewOffice oneFlight(int band) {
        CrewOffice x = Scene.twoFlights(1440 + band * 360, 1540 + band * 360, 4000, 4100);
        x.rule(REPORT, 0);
        x.rule(RELEASE, 0);
        Scene.chain(x, 0);
        return x;
    }

    /** "60 .. 1440 minutes": both bounds hold. */
    private static void promise07HasBoundsThatHold() {
        CrewOffice x = duty(1, 2, 60);
        x.limit(1, 2, 60);
        due.equal("check(0), 60 by the limit of 60", x.check(0), 0);
        x.move(1, 1);
        due.equal("check(0), 61 by the limit of 60", x.check(0), 4);
        CrewOffice most = Scene.twoFlights(60, 900, 1150, 1410);
        most.limit(0, 2, 1440);
        due.equal("its length", most.span(4), 1440);
        due.equal("check(0), 1440 by the limit of 1440", most.check(0), 0);
        most.move(1, 1);
        due.equal("check(0), 1441 by the limit of 1440", most.check(0), 4);
    }

    /** "Throws .. when there is no such band" */
    private static void promise07RefusesABand() {
        CrewOffice x = new CrewOffice();
        for (int band : Scene.outside(0, 3)) {
            due.fails("limit(" + band + ", 1, 720)", Due.ARGUMENT, () -> x.limit(band, 1, 720));
        }
    }

    /** "or number of legs" */
    private static void promise07RefusesANumberOfLegs() {
        CrewOffice x = new CrewOffice();
        for (int legs : Scene.outside(1, 4)) {
            due.fails("limit(0, " + legs + ", 720)", Due.ARGUMENT, () -> x.limit(0, legs, 720));
        }
        due.fails("limit(0, 8, 720)", Due.ARGUMENT, () -> x.limit(0, 8, 720));
    }

    /** "or it is out of its bounds" */
    private static void promise07RefusesMinutes() {
        CrewOffice x = new CrewOffice();
        for (int minutes : Scene.outside(60, 1440)) {
            due.fails("limit(0, 1, " + minutes + ")", Due.ARGUMENT, () -> x.limit(0, 1, minutes));
            due.fails("limit(3, 4, " + minutes + ")", Due.ARGUMENT, () -> x.limit(3, 4, minutes));
        }
    }
}
